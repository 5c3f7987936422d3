theorem s_lt6 {k : Nat} (h : k < 6) : k = 0 ∨ k = 1 ∨ k = 2 ∨ k = 3 ∨ k = 4 ∨ k = 5 := by omega
theorem rW_congr {w u B B' : Nat → Int32} {la : Int32} {i : Nat} (h : rW w u B la i) (h1 : B' (36 + i) = B (36 + i)) (h2 : B' (42 + i) = B (42 + i)) (h3 : ∀ k, k < 6 → B' (6 * i + k) = B (6 * i + k)) : rW w u B' la i := by
  obtain ⟨a1, a2, a3, a4, a5, a6, a7, a8, a9, a10, a11⟩ := h
  exact ⟨a1, a2, a3, a4, a5, fun z => by rw [h1]; exact a6 z, fun z => by rw [h1, h2]; exact a7 z, by have := h3 0 (by decide); rw [← a8]; exact this, fun z k hk => by rw [h3 k hk]; exact a9 z k hk, a10, a11⟩
/-- who is there, of the relation -/
theorem rB_there {σ : q_S} {r : Nat} {B lt sg : Nat → Int32} {th ar gp sc : Int32} (h : rB σ r B lt sg th ar gp sc) : (σ.1 (r + 2) 0 = 0 ∨ σ.1 (r + 2) 0 = 1) ∧ (σ.1 (r + 3) 0 = 0 ∨ σ.1 (r + 3) 0 = 1) ∧ (σ.1 (r + 4) 0 = 0 ∨ σ.1 (r + 4) 0 = 1) ∧ (σ.1 (r + 5) 0 = 0 ∨ σ.1 (r + 5) 0 = 1) ∧ (σ.1 (r + 6) 0 = 0 ∨ σ.1 (r + 6) 0 = 1) ∧ (σ.1 (r + 7) 0 = 0 ∨ σ.1 (r + 7) 0 = 1) := by
  obtain ⟨hA, hG, hWd, hBt, hT, w0, w1, w2, w3, w4, w5, hS⟩ := h
  exact ⟨w0.1, w1.1, w2.1, w3.1, w4.1, w5.1⟩
theorem o_walker (n : Nat) (x c l : Int32) : Ok (f_X9_walker (n + 100) x c l) (f_X10_walker (n + 100) x c l) := by
  intro σ h
  unfold f_X9_walker f_X10_walker f_X9_isCell f_X10_isCell
  rw [s_wI, s_wI, s_wI, s_wM, s_wM, s_wM]
  by_cases hx : 0 ≤ x ∧ x ≤ 5
  · by_cases hc : 0 ≤ c ∧ c ≤ 19
    · by_cases hl : 0 ≤ l ∧ l ≤ 5
      · rw [if_pos hx, if_pos hc, if_pos hl]
        simp only [show ¬ ((1 : Int32) = 0) by decide, if_false]
        have hx' := (s_rng x 5 5 rfl).mp hx
        have hc' := (s_rng c 19 19 rfl).mp hc
        have hl' := (s_rng l 5 5 rfl).mp hl
        have ht := rB_there h.1
        have hs := s_set _ _ _ _ _ _ ht.1 ht.2.1 ht.2.2.1 ht.2.2.2.1 ht.2.2.2.2.1 ht.2.2.2.2.2
        rw [if_pos (rng_in hx' (by decide)), s_arrive]
        simp only [Option.bind_some, s_tb]
        obtain ⟨⟨hA, hG, hWd, hBt, hT, w0, w1, w2, w3, w4, w5, hS⟩, hP, hI0, hI1⟩ := h
        obtain ⟨hs1, hs2⟩ := hs
        rcases s_six hx' with rfl | rfl | rfl | rfl | rfl | rfl
        · refine ⟨_, _, s_mw (q_w (q_w (s_fill (q_w (q_w (q_w σ 2 0 1) 2 1 l) 2 2 0) 8 0 6 c) 84 2 (σ.1 84 2 ||| ((1 : Int32) <<< ((0 : Int32) &&& 31)))) 87 0 l) 0 c, rfl, ?_, ?_⟩
          · refine Eq.trans (if_pos (by decide)) ?_
            refine Eq.trans (s_mwalk n 0 (by decide) c _) ?_
            have e1 : σ.1 84 2 ||| ((1 : Int32) <<< ((0 : Int32) &&& 31)) = rT (1) (σ.1 3 0) (σ.1 4 0) (σ.1 5 0) (σ.1 6 0) (σ.1 7 0) := by rw [hT]; exact hs1.1
            have e2 : (q_w (q_w (s_fill (q_w (q_w (q_w σ 2 0 1) 2 1 l) 2 2 0) 8 0 6 c) 84 2 (σ.1 84 2 ||| ((1 : Int32) <<< ((0 : Int32) &&& 31)))) 87 0 l).1 84 2 = rT (1) (σ.1 3 0) (σ.1 4 0) (σ.1 5 0) (σ.1 6 0) (σ.1 7 0) := e1
            refine Eq.trans (congrArg (fun z => Option.bind z _) (Eq.trans (congrArg (f_X10_bits (n + 100)) e2) (s_bits n _ (rT_rng _ _ _ _ _ _)))) ?_
            rfl
          · exact ⟨⟨hA, hG, hWd, hBt, by rw [hT] at *; exact hs1.1, rW_new (w := σ.1 0) (u := σ.1 0) (B := σ.1 0) (la := 0) rfl rfl rfl w0.2.2.1 hl' hc' (fun k hk => by rcases s_lt6 hk with rfl | rfl | rfl | rfl | rfl | rfl <;> rfl) rfl (fun k hk => by rcases s_lt6 hk with rfl | rfl | rfl | rfl | rfl | rfl <;> rfl), rW_congr w1 rfl rfl (fun k hk => by rcases s_lt6 hk with rfl | rfl | rfl | rfl | rfl | rfl <;> rfl), rW_congr w2 rfl rfl (fun k hk => by rcases s_lt6 hk with rfl | rfl | rfl | rfl | rfl | rfl <;> rfl), rW_congr w3 rfl rfl (fun k hk => by rcases s_lt6 hk with rfl | rfl | rfl | rfl | rfl | rfl <;> rfl), rW_congr w4 rfl rfl (fun k hk => by rcases s_lt6 hk with rfl | rfl | rfl | rfl | rfl | rfl <;> rfl), rW_congr w5 rfl rfl (fun k hk => by rcases s_lt6 hk with rfl | rfl | rfl | rfl | rfl | rfl <;> rfl), hS⟩, hP, hI0, hI1⟩
        · refine ⟨_, _, s_mw (q_w (q_w (s_fill (q_w (q_w (q_w σ 3 0 1) 3 1 l) 3 2 0) 9 0 6 c) 84 2 (σ.1 84 2 ||| ((1 : Int32) <<< ((1 : Int32) &&& 31)))) 87 1 l) 1 c, rfl, ?_, ?_⟩
          · refine Eq.trans (if_pos (by decide)) ?_
            refine Eq.trans (s_mwalk n 1 (by decide) c _) ?_
            have e1 : σ.1 84 2 ||| ((1 : Int32) <<< ((1 : Int32) &&& 31)) = rT (σ.1 2 0) (1) (σ.1 4 0) (σ.1 5 0) (σ.1 6 0) (σ.1 7 0) := by rw [hT]; exact hs1.2.1
            have e2 : (q_w (q_w (s_fill (q_w (q_w (q_w σ 3 0 1) 3 1 l) 3 2 0) 9 0 6 c) 84 2 (σ.1 84 2 ||| ((1 : Int32) <<< ((1 : Int32) &&& 31)))) 87 1 l).1 84 2 = rT (σ.1 2 0) (1) (σ.1 4 0) (σ.1 5 0) (σ.1 6 0) (σ.1 7 0) := e1
            refine Eq.trans (congrArg (fun z => Option.bind z _) (Eq.trans (congrArg (f_X10_bits (n + 100)) e2) (s_bits n _ (rT_rng _ _ _ _ _ _)))) ?_
            rfl
          · exact ⟨⟨hA, hG, hWd, hBt, by rw [hT] at *; exact hs1.2.1, rW_congr w0 rfl rfl (fun k hk => by rcases s_lt6 hk with rfl | rfl | rfl | rfl | rfl | rfl <;> rfl), rW_new (w := σ.1 0) (u := σ.1 0) (B := σ.1 0) (la := 0) rfl rfl rfl w1.2.2.1 hl' hc' (fun k hk => by rcases s_lt6 hk with rfl | rfl | rfl | rfl | rfl | rfl <;> rfl) rfl (fun k hk => by rcases s_lt6 hk with rfl | rfl | rfl | rfl | rfl | rfl <;> rfl), rW_congr w2 rfl rfl (fun k hk => by rcases s_lt6 hk with rfl | rfl | rfl | rfl | rfl | rfl <;> rfl), rW_congr w3 rfl rfl (fun k hk => by rcases s_lt6 hk with rfl | rfl | rfl | rfl | rfl | rfl <;> rfl), rW_congr w4 rfl rfl (fun k hk => by rcases s_lt6 hk with rfl | rfl | rfl | rfl | rfl | rfl <;> rfl), rW_congr w5 rfl rfl (fun k hk => by rcases s_lt6 hk with rfl | rfl | rfl | rfl | rfl | rfl <;> rfl), hS⟩, hP, hI0, hI1⟩
        · refine ⟨_, _, s_mw (q_w (q_w (s_fill (q_w (q_w (q_w σ 4 0 1) 4 1 l) 4 2 0) 10 0 6 c) 84 2 (σ.1 84 2 ||| ((1 : Int32) <<< ((2 : Int32) &&& 31)))) 87 2 l) 2 c, rfl, ?_, ?_⟩
          · refine Eq.trans (if_pos (by decide)) ?_
            refine Eq.trans (s_mwalk n 2 (by decide) c _) ?_
            have e1 : σ.1 84 2 ||| ((1 : Int32) <<< ((2 : Int32) &&& 31)) = rT (σ.1 2 0) (σ.1 3 0) (1) (σ.1 5 0) (σ.1 6 0) (σ.1 7 0) := by rw [hT]; exact hs1.2.2.1
            have e2 : (q_w (q_w (s_fill (q_w (q_w (q_w σ 4 0 1) 4 1 l) 4 2 0) 10 0 6 c) 84 2 (σ.1 84 2 ||| ((1 : Int32) <<< ((2 : Int32) &&& 31)))) 87 2 l).1 84 2 = rT (σ.1 2 0) (σ.1 3 0) (1) (σ.1 5 0) (σ.1 6 0) (σ.1 7 0) := e1
            refine Eq.trans (congrArg (fun z => Option.bind z _) (Eq.trans (congrArg (f_X10_bits (n + 100)) e2) (s_bits n _ (rT_rng _ _ _ _ _ _)))) ?_
            rfl
          · exact ⟨⟨hA, hG, hWd, hBt, by rw [hT] at *; exact hs1.2.2.1, rW_congr w0 rfl rfl (fun k hk => by rcases s_lt6 hk with rfl | rfl | rfl | rfl | rfl | rfl <;> rfl), rW_congr w1 rfl rfl (fun k hk => by rcases s_lt6 hk with rfl | rfl | rfl | rfl | rfl | rfl <;> rfl), rW_new (w := σ.1 0) (u := σ.1 0) (B := σ.1 0) (la := 0) rfl rfl rfl w2.2.2.1 hl' hc' (fun k hk => by rcases s_lt6 hk with rfl | rfl | rfl | rfl | rfl | rfl <;> rfl) rfl (fun k hk => by rcases s_lt6 hk with rfl | rfl | rfl | rfl | rfl | rfl <;> rfl), rW_congr w3 rfl rfl (fun k hk => by rcases s_lt6 hk with rfl | rfl | rfl | rfl | rfl | rfl <;> rfl), rW_congr w4 rfl rfl (fun k hk => by rcases s_lt6 hk with rfl | rfl | rfl | rfl | rfl | rfl <;> rfl), rW_congr w5 rfl rfl (fun k hk => by rcases s_lt6 hk with rfl | rfl | rfl | rfl | rfl | rfl <;> rfl), hS⟩, hP, hI0, hI1⟩
        · refine ⟨_, _, s_mw (q_w (q_w (s_fill (q_w (q_w (q_w σ 5 0 1) 5 1 l) 5 2 0) 11 0 6 c) 84 2 (σ.1 84 2 ||| ((1 : Int32) <<< ((3 : Int32) &&& 31)))) 87 3 l) 3 c, rfl, ?_, ?_⟩
          · refine Eq.trans (if_pos (by decide)) ?_
            refine Eq.trans (s_mwalk n 3 (by decide) c _) ?_
            have e1 : σ.1 84 2 ||| ((1 : Int32) <<< ((3 : Int32) &&& 31)) = rT (σ.1 2 0) (σ.1 3 0) (σ.1 4 0) (1) (σ.1 6 0) (σ.1 7 0) := by rw [hT]; exact hs1.2.2.2.1
            have e2 : (q_w (q_w (s_fill (q_w (q_w (q_w σ 5 0 1) 5 1 l) 5 2 0) 11 0 6 c) 84 2 (σ.1 84 2 ||| ((1 : Int32) <<< ((3 : Int32) &&& 31)))) 87 3 l).1 84 2 = rT (σ.1 2 0) (σ.1 3 0) (σ.1 4 0) (1) (σ.1 6 0) (σ.1 7 0) := e1
            refine Eq.trans (congrArg (fun z => Option.bind z _) (Eq.trans (congrArg (f_X10_bits (n + 100)) e2) (s_bits n _ (rT_rng _ _ _ _ _ _)))) ?_
            rfl
          · exact ⟨⟨hA, hG, hWd, hBt, by rw [hT] at *; exact hs1.2.2.2.1, rW_congr w0 rfl rfl (fun k hk => by rcases s_lt6 hk with rfl | rfl | rfl | rfl | rfl | rfl <;> rfl), rW_congr w1 rfl rfl (fun k hk => by rcases s_lt6 hk with rfl | rfl | rfl | rfl | rfl | rfl <;> rfl), rW_congr w2 rfl rfl (fun k hk => by rcases s_lt6 hk with rfl | rfl | rfl | rfl | rfl | rfl <;> rfl), rW_new (w := σ.1 0) (u := σ.1 0) (B := σ.1 0) (la := 0) rfl rfl rfl w3.2.2.1 hl' hc' (fun k hk => by rcases s_lt6 hk with rfl | rfl | rfl | rfl | rfl | rfl <;> rfl) rfl (fun k hk => by rcases s_lt6 hk with rfl | rfl | rfl | rfl | rfl | rfl <;> rfl), rW_congr w4 rfl rfl (fun k hk => by rcases s_lt6 hk with rfl | rfl | rfl | rfl | rfl | rfl <;> rfl), rW_congr w5 rfl rfl (fun k hk => by rcases s_lt6 hk with rfl | rfl | rfl | rfl | rfl | rfl <;> rfl), hS⟩, hP, hI0, hI1⟩
        · refine ⟨_, _, s_mw (q_w (q_w (s_fill (q_w (q_w (q_w σ 6 0 1) 6 1 l) 6 2 0) 12 0 6 c) 84 2 (σ.1 84 2 ||| ((1 : Int32) <<< ((4 : Int32) &&& 31)))) 87 4 l) 4 c, rfl, ?_, ?_⟩
          · refine Eq.trans (if_pos (by decide)) ?_
            refine Eq.trans (s_mwalk n 4 (by decide) c _) ?_
            have e1 : σ.1 84 2 ||| ((1 : Int32) <<< ((4 : Int32) &&& 31)) = rT (σ.1 2 0) (σ.1 3 0) (σ.1 4 0) (σ.1 5 0) (1) (σ.1 7 0) := by rw [hT]; exact hs1.2.2.2.2.1
            have e2 : (q_w (q_w (s_fill (q_w (q_w (q_w σ 6 0 1) 6 1 l) 6 2 0) 12 0 6 c) 84 2 (σ.1 84 2 ||| ((1 : Int32) <<< ((4 : Int32) &&& 31)))) 87 4 l).1 84 2 = rT (σ.1 2 0) (σ.1 3 0) (σ.1 4 0) (σ.1 5 0) (1) (σ.1 7 0) := e1
            refine Eq.trans (congrArg (fun z => Option.bind z _) (Eq.trans (congrArg (f_X10_bits (n + 100)) e2) (s_bits n _ (rT_rng _ _ _ _ _ _)))) ?_
            rfl
          · exact ⟨⟨hA, hG, hWd, hBt, by rw [hT] at *; exact hs1.2.2.2.2.1, rW_congr w0 rfl rfl (fun k hk => by rcases s_lt6 hk with rfl | rfl | rfl | rfl | rfl | rfl <;> rfl), rW_congr w1 rfl rfl (fun k hk => by rcases s_lt6 hk with rfl | rfl | rfl | rfl | rfl | rfl <;> rfl), rW_congr w2 rfl rfl (fun k hk => by rcases s_lt6 hk with rfl | rfl | rfl | rfl | rfl | rfl <;> rfl), rW_congr w3 rfl rfl (fun k hk => by rcases s_lt6 hk with rfl | rfl | rfl | rfl | rfl | rfl <;> rfl), rW_new (w := σ.1 0) (u := σ.1 0) (B := σ.1 0) (la := 0) rfl rfl rfl w4.2.2.1 hl' hc' (fun k hk => by rcases s_lt6 hk with rfl | rfl | rfl | rfl | rfl | rfl <;> rfl) rfl (fun k hk => by rcases s_lt6 hk with rfl | rfl | rfl | rfl | rfl | rfl <;> rfl), rW_congr w5 rfl rfl (fun k hk => by rcases s_lt6 hk with rfl | rfl | rfl | rfl | rfl | rfl <;> rfl), hS⟩, hP, hI0, hI1⟩
        · refine ⟨_, _, s_mw (q_w (q_w (s_fill (q_w (q_w (q_w σ 7 0 1) 7 1 l) 7 2 0) 13 0 6 c) 84 2 (σ.1 84 2 ||| ((1 : Int32) <<< ((5 : Int32) &&& 31)))) 87 5 l) 5 c, rfl, ?_, ?_⟩
          · refine Eq.trans (if_pos (by decide)) ?_
            refine Eq.trans (s_mwalk n 5 (by decide) c _) ?_
            have e1 : σ.1 84 2 ||| ((1 : Int32) <<< ((5 : Int32) &&& 31)) = rT (σ.1 2 0) (σ.1 3 0) (σ.1 4 0) (σ.1 5 0) (σ.1 6 0) (1) := by rw [hT]; exact hs1.2.2.2.2.2
            have e2 : (q_w (q_w (s_fill (q_w (q_w (q_w σ 7 0 1) 7 1 l) 7 2 0) 13 0 6 c) 84 2 (σ.1 84 2 ||| ((1 : Int32) <<< ((5 : Int32) &&& 31)))) 87 5 l).1 84 2 = rT (σ.1 2 0) (σ.1 3 0) (σ.1 4 0) (σ.1 5 0) (σ.1 6 0) (1) := e1
            refine Eq.trans (congrArg (fun z => Option.bind z _) (Eq.trans (congrArg (f_X10_bits (n + 100)) e2) (s_bits n _ (rT_rng _ _ _ _ _ _)))) ?_
            rfl
          · exact ⟨⟨hA, hG, hWd, hBt, by rw [hT] at *; exact hs1.2.2.2.2.2, rW_congr w0 rfl rfl (fun k hk => by rcases s_lt6 hk with rfl | rfl | rfl | rfl | rfl | rfl <;> rfl), rW_congr w1 rfl rfl (fun k hk => by rcases s_lt6 hk with rfl | rfl | rfl | rfl | rfl | rfl <;> rfl), rW_congr w2 rfl rfl (fun k hk => by rcases s_lt6 hk with rfl | rfl | rfl | rfl | rfl | rfl <;> rfl), rW_congr w3 rfl rfl (fun k hk => by rcases s_lt6 hk with rfl | rfl | rfl | rfl | rfl | rfl <;> rfl), rW_congr w4 rfl rfl (fun k hk => by rcases s_lt6 hk with rfl | rfl | rfl | rfl | rfl | rfl <;> rfl), rW_new (w := σ.1 0) (u := σ.1 0) (B := σ.1 0) (la := 0) rfl rfl rfl w5.2.2.1 hl' hc' (fun k hk => by rcases s_lt6 hk with rfl | rfl | rfl | rfl | rfl | rfl <;> rfl) rfl (fun k hk => by rcases s_lt6 hk with rfl | rfl | rfl | rfl | rfl | rfl <;> rfl), hS⟩, hP, hI0, hI1⟩
      · rw [if_pos hx, if_pos hc, if_neg hl]
        exact ⟨_, _, _, rfl, rfl, h⟩
    · rw [if_pos hx, if_neg hc]
      exact ⟨_, _, _, rfl, rfl, h⟩
  · rw [if_neg hx]
    exact ⟨_, _, _, rfl, rfl, h⟩
