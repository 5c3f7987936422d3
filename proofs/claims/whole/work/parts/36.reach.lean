/-! copying a Reach -/
def s_cw (σ : q_S) (o a : Nat) : q_S := q_cp (q_w (q_w (q_w (q_w (q_w σ o 0 (σ.1 a 0)) o 1 (σ.1 a 1)) o 2 (σ.1 a 2)) o 3 (σ.1 a 3)) o 4 (σ.1 a 4)) (a + 6) (o + 6) 0 0 6
theorem s_X8 (o a : Nat) (h : a ≠ o) (σ : q_S) (h0 : σ.1 a 0 = 0 ∨ σ.1 a 0 = 1) (h2 : σ.1 a 2 = 0 ∨ σ.1 a 2 = 1) (h4 : σ.1 a 4 = 0 ∨ σ.1 a 4 = 1) : f_X8_copy o a σ = some (s_cw σ o a) := by
  unfold f_X8_copy
  simp only [s_wn _ _ _ _ h]
  rw [if_pos h0, if_pos h2, if_pos h4]
  rfl
theorem s_cpw (N o a m : Nat) (σ τ : q_S) (i : Nat) (hi : i < 6) (hx : f_X8_copy (o + 2 + i) (a + 2 + i) σ = some τ) : f_X3_copy_34 N o a (m + 1) (nI i) σ = f_X3_copy_34 N o a m (nI (i + 1)) τ := by
  rw [f_X3_copy_34, if_neg (show ¬ (6 : Int32) ≤ nI i from nI_ge (b := 6) hi (by decide)), if_pos (nI_in hi (by decide)), nI_clamp (by omega), hx, nI_1]
  rfl
/-- τ is σ, but the Reach at o is as the one at a -/
def CP (σ τ : q_S) (o a : Nat) : Prop := (∀ p, (p < o ∨ o + 17 ≤ p) → τ.1 p = σ.1 p) ∧ τ.2 = σ.2 ∧ (∀ k, k < 4 → τ.1 o k = σ.1 a k) ∧ (∀ i, i < 6 → (∀ k, k < 5 → τ.1 (o + 2 + i) k = σ.1 (a + 2 + i) k) ∧ (∀ k, k < 6 → τ.1 (o + 8 + i) k = σ.1 (a + 8 + i) k)) ∧ τ.1 (o + 14) 2 = σ.1 (a + 14) 2 ∧ ∀ k, k < 8 → τ.1 (o + 15) k = σ.1 (a + 15) k ∧ τ.1 (o + 16) k = σ.1 (a + 16) k
/-- the booleans of a Reach -/
def BL (σ : q_S) (a : Nat) : Prop := (σ.1 a 2 = 0 ∨ σ.1 a 2 = 1) ∧ ∀ i, i < 6 → (σ.1 (a + 2 + i) 0 = 0 ∨ σ.1 (a + 2 + i) 0 = 1) ∧ (σ.1 (a + 2 + i) 2 = 0 ∨ σ.1 (a + 2 + i) 2 = 1) ∧ (σ.1 (a + 2 + i) 4 = 0 ∨ σ.1 (a + 2 + i) 4 = 1)
theorem rB_BL {σ : q_S} {r : Nat} {B lt sg : Nat → Int32} {th ar gp sc : Int32} (h : rB σ r B lt sg th ar gp sc) : BL σ r := by
  obtain ⟨hA, hG, hWd, hBt, hT, w0, w1, w2, w3, w4, w5, hS⟩ := h
  refine ⟨by rw [hWd.1]; exact hWd.2, fun i hi => ?_⟩
  rcases s_lt6 hi with rfl | rfl | rfl | rfl | rfl | rfl
  · exact ⟨w0.1, w0.2.1, w0.2.2.1⟩
  · exact ⟨w1.1, w1.2.1, w1.2.2.1⟩
  · exact ⟨w2.1, w2.2.1, w2.2.2.1⟩
  · exact ⟨w3.1, w3.2.1, w3.2.2.1⟩
  · exact ⟨w4.1, w4.2.1, w4.2.2.1⟩
  · exact ⟨w5.1, w5.2.1, w5.2.2.1⟩
theorem s_cw_n (σ : q_S) (o a : Nat) {p : Nat} (h1 : p ≠ o) (h2 : p ≠ o + 6) : (s_cw σ o a).1 p = σ.1 p := by
  unfold s_cw
  rw [s_cp_n _ _ _ _ _ _ h2, s_wn _ _ _ _ h1, s_wn _ _ _ _ h1, s_wn _ _ _ _ h1, s_wn _ _ _ _ h1, s_wn _ _ _ _ h1]
theorem s_cw_o (σ : q_S) (o a k : Nat) (hk : k < 5) : (s_cw σ o a).1 o k = σ.1 a k := by
  unfold s_cw
  rw [s_cp_n _ _ _ _ _ _ (show o ≠ o + 6 by omega)]
  simp only [s_w1]
  rcases (show k = 0 ∨ k = 1 ∨ k = 2 ∨ k = 3 ∨ k = 4 by omega) with rfl | rfl | rfl | rfl | rfl <;> rfl
theorem s_cw_u (σ : q_S) (o a k : Nat) (hk : k < 6) (h : a + 6 ≠ o) : (s_cw σ o a).1 (o + 6) k = σ.1 (a + 6) k := by
  unfold s_cw
  rw [s_cp_at _ _ _ _ _ hk, s_wn _ _ _ _ h, s_wn _ _ _ _ h, s_wn _ _ _ _ h, s_wn _ _ _ _ h, s_wn _ _ _ _ h]
theorem s_copy_l (N o a : Nat) (σ : q_S) (hd : o + 17 ≤ a ∨ a + 17 ≤ o) (hb : BL σ a) : ∀ (d i m : Nat) (s : q_S), i + d = 6 → d < m → (∀ p, (p < o ∨ o + 17 ≤ p) → s.1 p = σ.1 p) → s.2 = σ.2 → (∀ k, k < 4 → s.1 o k = σ.1 a k) → (∀ j, j < i → (∀ k, k < 5 → s.1 (o + 2 + j) k = σ.1 (a + 2 + j) k) ∧ (∀ k, k < 6 → s.1 (o + 8 + j) k = σ.1 (a + 8 + j) k)) → ∃ τ, f_X3_copy_34 N o a m (nI i) s = some τ ∧ CP σ τ o a := by
  intro d
  induction d with
  | zero =>
    intro i m s hi hm h1 h2 h3 h4
    obtain ⟨m, rfl⟩ : ∃ k, m = k + 1 := ⟨m - 1, by omega⟩
    have e : i = 6 := by omega
    subst e
    refine ⟨f_X5_copy (o + 14) (a + 14) s, by rw [f_X3_copy_34, if_pos (by decide)], ?_⟩
    unfold f_X5_copy
    refine ⟨fun p hp => ?_, h2, fun k hk => ?_, fun j hj => ⟨fun k hk => ?_, fun k hk => ?_⟩, ?_, fun k hk => ⟨?_, ?_⟩⟩
    · rw [s_cp_n _ _ _ _ _ _ (by omega), s_cp_n _ _ _ _ _ _ (by omega), s_wn _ _ _ _ (by omega)]
      exact h1 p hp
    · rw [s_cp_n _ _ _ _ _ _ (by omega), s_cp_n _ _ _ _ _ _ (by omega), s_wn _ _ _ _ (by omega)]
      exact h3 k hk
    · rw [s_cp_n _ _ _ _ _ _ (by omega), s_cp_n _ _ _ _ _ _ (by omega), s_wn _ _ _ _ (by omega)]
      exact (h4 j hj).1 k hk
    · rw [s_cp_n _ _ _ _ _ _ (by omega), s_cp_n _ _ _ _ _ _ (by omega), s_wn _ _ _ _ (by omega)]
      exact (h4 j hj).2 k hk
    · rw [s_cp_n _ _ _ _ _ _ (by omega), s_cp_n _ _ _ _ _ _ (by omega), s_w1, s_u1, h1 _ (by omega)]
    · rw [s_cp_n _ _ _ _ _ _ (by omega)]
      refine Eq.trans (s_cp_at _ _ _ 8 k hk) ?_
      rw [s_wn _ _ _ _ (by omega)]
      exact congrFun (h1 _ (by omega)) k
    · refine Eq.trans (s_cp_at _ _ _ 8 k hk) ?_
      rw [s_cp_n _ _ _ _ _ _ (by omega), s_wn _ _ _ _ (by omega)]
      exact congrFun (h1 _ (by omega)) k
  | succ d ih =>
    intro i m s hi hm h1 h2 h3 h4
    obtain ⟨m, rfl⟩ : ∃ k, m = k + 1 := ⟨m - 1, by omega⟩
    have ea : s.1 (a + 2 + i) = σ.1 (a + 2 + i) := h1 _ (by omega)
    have eb : s.1 (a + 2 + i + 6) = σ.1 (a + 2 + i + 6) := h1 _ (by omega)
    have hbi := hb.2 i (by omega)
    rw [s_cpw N o a m s (s_cw s (o + 2 + i) (a + 2 + i)) i (by omega) (s_X8 _ _ (by omega) s (by rw [ea]; exact hbi.1) (by rw [ea]; exact hbi.2.1) (by rw [ea]; exact hbi.2.2))]
    refine ih (i + 1) m _ (by omega) (by omega) (fun p hp => ?_) h2 (fun k hk => ?_) (fun j hj => ⟨fun k hk => ?_, fun k hk => ?_⟩)
    · rw [s_cw_n _ _ _ (by omega) (by omega)]
      exact h1 p hp
    · rw [s_cw_n _ _ _ (by omega) (by omega)]
      exact h3 k hk
    · by_cases hji : j = i
      · subst hji
        rw [s_cw_o _ _ _ _ hk, ea]
      · rw [s_cw_n _ _ _ (by omega) (by omega)]
        exact (h4 j (by omega)).1 k hk
    · by_cases hji : j = i
      · subst hji
        rw [show o + 8 + j = o + 2 + j + 6 by omega, s_cw_u _ _ _ _ hk (by omega), eb, show a + 8 + j = a + 2 + j + 6 by omega]
      · rw [s_cw_n _ _ _ (by omega) (by omega)]
        exact (h4 j (by omega)).2 k hk
theorem s_copy (n o a : Nat) (σ : q_S) (hd : o + 17 ≤ a ∨ a + 17 ≤ o) (hb : BL σ a) : ∃ τ, f_X3_copy (n + 100) o a σ = some τ ∧ CP σ τ o a := by
  have hne : a ≠ o := by omega
  unfold f_X3_copy
  simp only [s_wn _ _ _ _ hne]
  rw [if_pos hb.1]
  refine s_copy_l (n + 100) o a σ hd hb 6 0 _ _ (by decide) (by omega) (fun p hp => ?_) rfl (fun k hk => ?_) (fun j hj => by omega)
  · rw [s_wn _ _ _ _ (by omega), s_wn _ _ _ _ (by omega), s_wn _ _ _ _ (by omega), s_wn _ _ _ _ (by omega)]
  · simp only [s_w1]
    rcases (show k = 0 ∨ k = 1 ∨ k = 2 ∨ k = 3 by omega) with rfl | rfl | rfl | rfl <;> rfl
/-- a copied Reach is related as the first one -/
theorem rW_eq {w u w' u' B : Nat → Int32} {la : Int32} {i : Nat} (h : rW w u B la i) (hw : ∀ k, k < 5 → w' k = w k) (hu : ∀ k, k < 6 → u' k = u k) : rW w' u' B la i := by
  unfold rW at *
  rw [hw 0 (by decide), hw 1 (by decide), hw 2 (by decide), hw 3 (by decide), hw 4 (by decide), hu 0 (by decide)]
  obtain ⟨a1, a2, a3, a4, a5, a6, a7, a8, a9, a10, a11⟩ := h
  exact ⟨a1, a2, a3, a4, a5, a6, a7, a8, fun z k hk => by rw [hu k hk]; exact a9 z k hk, fun k hk => by rw [hu k hk]; exact a10 k hk, fun k hk => by rw [hu k (by omega), hu (k + 1) (by omega)]; exact a11 k hk⟩
theorem rB_copy {σ τ : q_S} {o a : Nat} {B lt sg : Nat → Int32} {th ar gp sc : Int32} (hc : CP σ τ o a) (h : rB σ a B lt sg th ar gp sc) : rB τ o B lt sg th ar gp sc := by
  obtain ⟨-, -, h0, hi, h14, h15⟩ := hc
  obtain ⟨hA, hG, hWd, hBt, hT, w0, w1, w2, w3, w4, w5, s1, s2, s3⟩ := h
  have i0 := hi 0 (by decide)
  have i1 := hi 1 (by decide)
  have i2 := hi 2 (by decide)
  have i3 := hi 3 (by decide)
  have i4 := hi 4 (by decide)
  have i5 := hi 5 (by decide)
  refine ⟨by rw [h0 0 (by decide)]; exact hA, by rw [h0 1 (by decide)]; exact hG, by rw [h0 2 (by decide)]; exact hWd, by rw [h0 3 (by decide)]; exact hBt, ?_, rW_eq w0 i0.1 i0.2, rW_eq w1 i1.1 i1.2, rW_eq w2 i2.1 i2.2, rW_eq w3 i3.1 i3.2, rW_eq w4 i4.1 i4.2, rW_eq w5 i5.1 i5.2, by rw [h14]; exact s1, s2, fun k hk => by rw [(h15 k hk).1, (h15 k hk).2]; exact s3 k hk⟩
  rw [show τ.1 (o + 2) 0 = σ.1 (a + 2) 0 from i0.1 0 (by decide), show τ.1 (o + 3) 0 = σ.1 (a + 3) 0 from i1.1 0 (by decide), show τ.1 (o + 4) 0 = σ.1 (a + 4) 0 from i2.1 0 (by decide), show τ.1 (o + 5) 0 = σ.1 (a + 5) 0 from i3.1 0 (by decide), show τ.1 (o + 6) 0 = σ.1 (a + 6) 0 from i4.1 0 (by decide), show τ.1 (o + 7) 0 = σ.1 (a + 7) 0 from i5.1 0 (by decide)]
  exact hT
/-- another row that is the same where it is looked at -/
theorem rB_row {σ : q_S} {r : Nat} {B B' lt lt' sg sg' : Nat → Int32} {th ar gp sc : Int32} (h : rB σ r B lt sg th ar gp sc) (hB : ∀ k, k < 50 → B' k = B k) (hl : ∀ k, k < 6 → lt' k = lt k) (hs : ∀ k, k < 16 → sg' k = sg k) : rB σ r B' lt' sg' th ar gp sc := by
  obtain ⟨hA, hG, hWd, hBt, hT, w0, w1, w2, w3, w4, w5, s1, s2, s3⟩ := h
  have cg : ∀ {w u : Nat → Int32} {i : Nat}, i < 6 → rW w u B (lt i) i → rW w u B' (lt' i) i := fun {w u i} hi h => by
    rw [hl i hi]
    exact rW_congr h (hB _ (by omega)) (hB _ (by omega)) (fun k hk => hB _ (by omega))
  exact ⟨hA, hG, by rw [hB 48 (by decide)]; exact hWd, by rw [hB 49 (by decide)]; exact hBt, hT, cg (by decide) w0, cg (by decide) w1, cg (by decide) w2, cg (by decide) w3, cg (by decide) w4, cg (by decide) w5, s1, s2, fun k hk => by rw [hs _ (by omega), hs _ (by omega)]; exact s3 k hk⟩
