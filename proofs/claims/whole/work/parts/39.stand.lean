/-! who stands in a cell -/
def vW (σ : q_S) (r : Nat) (c : Int32) (i : Nat) : Int32 := if σ.1 (r + 2 + i) 0 = 0 then 0 else if σ.1 (r + 8 + i) 0 = c then 1 else 0
def vO (σ : q_S) (r : Nat) (c : Int32) (i : Nat) : Int32 := if σ.1 (r + 2 + i) 0 = 0 then 0 else if sO σ r i = c then 1 else 0
def rT6 (v : Nat → Int32) : Int32 := rT (v 0) (v 1) (v 2) (v 3) (v 4) (v 5)
theorem s_wi_step (N p0 : Nat) (c : Int32) (σ : q_S) (n : Nat) (x : Int32) (i : Nat) (hi : i < 6) : f_X3_walkersIn_4 N p0 c σ (n + 1) x (nI i) = f_X3_walkersIn_4 N p0 c σ n (x ||| (if vW σ p0 c i = 0 then 0 else nI (2 ^ i))) (nI (i + 1)) := by
  rw [f_X3_walkersIn_4, if_neg (show ¬ (6 : Int32) ≤ nI i from nI_ge hi (by decide)), if_pos (nI_in hi (by decide)), nI_clamp (by omega), s_sh6 i hi, nI_1, show p0 + 2 + i + 6 = p0 + 8 + i by omega]
  unfold vW
  by_cases h1 : σ.1 (p0 + 2 + i) 0 = 0
  · rw [if_pos h1, if_pos h1, if_pos rfl]
  · rw [if_neg h1, if_neg h1]
    by_cases h2 : σ.1 (p0 + 8 + i) 0 = c
    · rw [if_pos h2, if_neg (show ¬ ((1 : Int32) = 0) by decide)]
      exact if_pos h2
    · rw [if_neg h2, if_pos rfl]
      exact if_neg h2
theorem s_wi (n p0 : Nat) (c : Int32) (σ : q_S) : f_X3_walkersIn (n + 100) p0 c σ = some (rT6 (vW σ p0 c)) := by
  unfold f_X3_walkersIn
  rw [show f_X3_walkersIn_4 (n + 100) p0 c σ (n + 100) 0 0 = f_X3_walkersIn_4 (n + 100) p0 c σ (n + 99 + 1) 0 (nI 0) from rfl, s_wi_step _ _ _ _ _ _ 0 (by decide), show n + 99 = n + 98 + 1 from rfl, s_wi_step _ _ _ _ _ _ 1 (by decide), show n + 98 = n + 97 + 1 from rfl, s_wi_step _ _ _ _ _ _ 2 (by decide), show n + 97 = n + 96 + 1 from rfl, s_wi_step _ _ _ _ _ _ 3 (by decide), show n + 96 = n + 95 + 1 from rfl, s_wi_step _ _ _ _ _ _ 4 (by decide), show n + 95 = n + 94 + 1 from rfl, s_wi_step _ _ _ _ _ _ 5 (by decide), show n + 94 = n + 93 + 1 from rfl, f_X3_walkersIn_4, if_pos (show (6 : Int32) ≤ nI 6 by decide)]
  rfl
theorem s_oi_step (N p0 : Nat) (c : Int32) (σ : q_S) (n : Nat) (x : Int32) (i : Nat) (hi : i < 6) (hl : rng (σ.1 (p0 + 2 + i) 1) 6) : f_X3_othersIn_4 N p0 c σ (n + 1) x (nI i) = f_X3_othersIn_4 N p0 c σ n (x ||| (if vO σ p0 c i = 0 then 0 else nI (2 ^ i))) (nI (i + 1)) := by
  rw [f_X3_othersIn_4, if_neg (show ¬ (6 : Int32) ≤ nI i from nI_ge hi (by decide)), if_pos (nI_in hi (by decide)), nI_clamp (by omega), s_sh6 i hi, nI_1, s_otherC σ p0 i hl]
  unfold vO
  simp only [Option.bind_some]
  by_cases h1 : σ.1 (p0 + 2 + i) 0 = 0
  · rw [if_pos h1, if_pos h1, if_pos rfl]
  · rw [if_neg h1, if_neg h1]
    by_cases h2 : sO σ p0 i = c
    · rw [if_pos h2, if_pos h2, if_neg (show ¬ ((1 : Int32) = 0) by decide)]
    · rw [if_neg h2, if_neg h2, if_pos rfl]
theorem s_oi (n p0 : Nat) (c : Int32) (σ : q_S) (hl : ∀ i, i < 6 → rng (σ.1 (p0 + 2 + i) 1) 6) : f_X3_othersIn (n + 100) p0 c σ = some (rT6 (vO σ p0 c)) := by
  unfold f_X3_othersIn
  rw [show f_X3_othersIn_4 (n + 100) p0 c σ (n + 100) 0 0 = f_X3_othersIn_4 (n + 100) p0 c σ (n + 99 + 1) 0 (nI 0) from rfl, s_oi_step _ _ _ _ _ _ 0 (by decide) (hl 0 (by decide)), show n + 99 = n + 98 + 1 from rfl, s_oi_step _ _ _ _ _ _ 1 (by decide) (hl 1 (by decide)), show n + 98 = n + 97 + 1 from rfl, s_oi_step _ _ _ _ _ _ 2 (by decide) (hl 2 (by decide)), show n + 97 = n + 96 + 1 from rfl, s_oi_step _ _ _ _ _ _ 3 (by decide) (hl 3 (by decide)), show n + 96 = n + 95 + 1 from rfl, s_oi_step _ _ _ _ _ _ 4 (by decide) (hl 4 (by decide)), show n + 95 = n + 94 + 1 from rfl, s_oi_step _ _ _ _ _ _ 5 (by decide) (hl 5 (by decide)), show n + 94 = n + 93 + 1 from rfl, f_X3_othersIn_4, if_pos (show (6 : Int32) ≤ nI 6 by decide)]
  rfl
theorem rB_w {σ : q_S} {r : Nat} {B lt sg : Nat → Int32} {th ar gp sc : Int32} (h : rB σ r B lt sg th ar gp sc) : ∀ i, i < 6 → rW (σ.1 (r + 2 + i)) (σ.1 (r + 8 + i)) B (lt i) i := by
  obtain ⟨hA, hG, hWd, hBt, hT, w0, w1, w2, w3, w4, w5, hS⟩ := h
  intro i hi
  rcases s_lt6 hi with rfl | rfl | rfl | rfl | rfl | rfl
  · exact w0
  · exact w1
  · exact w2
  · exact w3
  · exact w4
  · exact w5
/-- the reference's look at who is there, walker by walker -/
theorem s_isT {σ τ : q_S} {r : Nat} {B lt sg : Nat → Int32} {th ar gp sc : Int32} (h : rB σ r B lt sg th ar gp sc) (hτ : τ.1 84 2 = th) (i : Nat) (hi : i < 6) : f_X10_isThere (nI i) τ = σ.1 (r + 2 + i) 0 := by
  have hb := (rB_w h i hi).1
  have hhas : f_X3_has r (nI i) σ = some (σ.1 (r + 2 + i) 0) := by
    unfold f_X3_has
    rw [s_wI, if_pos ((s_rng (nI i) 5 5 rfl).mpr ⟨i, hi, rfl⟩), if_neg (by decide), if_pos (nI_in hi (by decide)), nI_clamp (by omega)]
    rcases hb with e | e
    · rw [e]
      rfl
    · rw [e]
      rfl
  rcases s_isThere h hτ (nI i) with ⟨h1, h2⟩ | ⟨h1, h2, -⟩
  · rw [h2]
    rw [hhas] at h1
    exact (Option.some.inj h1).symm
  · rw [h2]
    rw [hhas] at h1
    exact (Option.some.inj h1).symm
/-- the value that the reference's loop looks at -/
theorem s_st_step {σ τ : q_S} {r : Nat} {B lt sg : Nat → Int32} {th ar gp sc : Int32} (h : rB σ r B lt sg th ar gp sc) (h84 : τ.1 84 2 = th) (h86 : ∀ k, k < 50 → τ.1 86 k = B k) (h87 : ∀ k, k < 6 → τ.1 87 k = lt k) (N : Nat) (c w : Int32) (hw : w = 0 ∨ w = 1) (n : Nat) (x : Int32) (i : Nat) (hi : i < 6) :
    f_X10_standing_30 N c w (n + 1) x (nI i) τ = f_X10_standing_30 N c w n (x ||| (if (if w = 0 then vW σ r c i else vO σ r c i) = 0 then 0 else nI (2 ^ i))) (nI (i + 1)) τ := by
  have hwi := rB_w h i hi
  rw [f_X10_standing_30, if_neg (show ¬ (6 : Int32) ≤ nI i from nI_ge hi (by decide)), s_isT h h84 i hi]
  unfold f_X10_standing_78 vW vO
  rw [s_sh6 i hi, nI_1]
  rcases hwi.1 with e | e
  · simp only [e, if_true, ite_self]
  · simp only [e, show ¬ ((1 : Int32) = 0) by decide, if_false, if_true]
    rcases hw with rfl | rfl
    · simp only [if_true]
      rw [show (6 : Int32) * nI i = nI (6 * i) from pk_mul 6 i, if_pos (nI_in (show 6 * i < 50 by omega) (by decide)), nI_clamp (by omega), h86 _ (by omega), hwi.2.2.2.2.2.2.2.1]
      by_cases h2 : σ.1 (r + 8 + i) 0 = c
      · simp only [h2, if_true, show ¬ ((1 : Int32) = 0) by decide, if_false]
      · simp only [h2, if_false, if_true]
    · simp only [show ¬ ((1 : Int32) = 0) by decide, if_false]
      rw [s_otherM hi hwi e h.2.2.1.1 h.2.2.1.2 τ h86 (h87 i hi)]
      simp only [Option.bind_some]
      by_cases h2 : sO σ r i = c
      · simp only [h2, if_true, show ¬ ((1 : Int32) = 0) by decide, if_false]
      · simp only [h2, if_false, if_true]
theorem s_st {σ τ : q_S} {r : Nat} {B lt sg : Nat → Int32} {th ar gp sc : Int32} (h : rB σ r B lt sg th ar gp sc) (h84 : τ.1 84 2 = th) (h86 : ∀ k, k < 50 → τ.1 86 k = B k) (h87 : ∀ k, k < 6 → τ.1 87 k = lt k) (n : Nat) (c w : Int32) (hw : w = 0 ∨ w = 1) : f_X10_standing_30 (n + 100) c w (n + 100) 0 0 τ = some (rT6 (fun i => if w = 0 then vW σ r c i else vO σ r c i), τ) := by
  have st := fun m x i hi => s_st_step h h84 h86 h87 (n + 100) c w hw m x i hi
  rw [show f_X10_standing_30 (n + 100) c w (n + 100) 0 0 τ = f_X10_standing_30 (n + 100) c w (n + 99 + 1) 0 (nI 0) τ from rfl, st _ _ 0 (by decide), show n + 99 = n + 98 + 1 from rfl, st _ _ 1 (by decide), show n + 98 = n + 97 + 1 from rfl, st _ _ 2 (by decide), show n + 97 = n + 96 + 1 from rfl, st _ _ 3 (by decide), show n + 96 = n + 95 + 1 from rfl, st _ _ 4 (by decide), show n + 95 = n + 94 + 1 from rfl, st _ _ 5 (by decide), show n + 94 = n + 93 + 1 from rfl, f_X10_standing_30, if_pos (show (6 : Int32) ≤ nI 6 by decide)]
  rfl
/-- behind asNow -/
theorem s_now (σ : q_S) (h : Rel σ) : let τ := q_w (q_w (q_cp σ 85 86 0 0 50) 84 10 (-6)) 84 11 (-6); Rel τ ∧ τ.1 84 2 = σ.1 84 2 ∧ (∀ k, k < 50 → τ.1 86 k = σ.1 85 k) ∧ (∀ k, k < 6 → τ.1 87 k = σ.1 87 k) := by
  refine ⟨Rel_congr (fun p hp hn => ?_) (fun k hk => ?_) h, rfl, fun k hk => ?_, fun k hk => rfl⟩
  · rw [s_wn _ _ _ _ (by omega), s_wn _ _ _ _ (by omega), s_cp_n _ _ _ _ _ _ (by omega)]
  · rcases hk with rfl | rfl | rfl | rfl | rfl <;> rfl
  · rw [s_wn _ _ _ _ (by decide), s_wn _ _ _ _ (by decide)]
    exact s_cp_at σ 85 86 50 k hk
theorem o_standing (n : Nat) (c w : Int32) (σ : q_S) (h : Rel σ) : ∃ r σ2, f_X9_standing (n + 100) c w σ = some r ∧ f_X10_standing (n + 100) c w σ = some (r, σ2) ∧ Rel σ2 := by
  unfold f_X9_standing f_X10_standing f_X9_isCell f_X10_isCell
  rw [s_wI, s_wM, s_wI, s_wM]
  by_cases hc : 0 ≤ c ∧ c ≤ 19
  · by_cases hw : 0 ≤ w ∧ w ≤ 1
    · rw [if_pos hc, if_pos hw]
      simp only [show ¬ ((1 : Int32) = 0) by decide, if_false]
      have hw' : w = 0 ∨ w = 1 := by
        obtain ⟨k, hk, rfl⟩ := (s_rng w 1 1 rfl).mp hw
        rcases (show k = 0 ∨ k = 1 by omega) with rfl | rfl
        · exact Or.inl rfl
        · exact Or.inr rfl
      have hn := s_now σ h
      rw [s_asNow, s_wi, s_oi _ _ _ _ (fun i hi => rW_lt (rB_w h.1 i hi))]
      simp only [Option.bind_some]
      rw [s_st h.1 hn.2.1 hn.2.2.1 hn.2.2.2 n c w hw']
      refine ⟨_, _, ?_, rfl, hn.1⟩
      rcases hw' with rfl | rfl
      · rfl
      · rfl
    · rw [if_pos hc, if_neg hw]
      exact ⟨_, σ, rfl, rfl, h⟩
  · rw [if_neg hc]
    exact ⟨_, σ, rfl, rfl, h⟩
