theorem s_re_n (σ : q_S) (z : Nat) {p : Nat} (h1 : p ≠ 85) (h2 : p ≠ 87) (h3 : p ≠ 88) (h4 : p ≠ 84) : (s_re σ z).1 p = σ.1 p := by
  unfold s_re s_reE
  rw [s_wn _ _ _ _ h4, s_wn _ _ _ _ h4, s_wn _ _ _ _ h4, s_wn _ _ _ _ h4, s_cp_n _ _ _ _ _ _ h3, s_cp_n _ _ _ _ _ _ h2, s_cp_n _ _ _ _ _ _ h1]
theorem s_re_85 (σ : q_S) (z k : Nat) (hk : k < 50) : (s_re σ z).1 85 k = σ.1 96 (z + k) := by
  unfold s_re s_reE
  rw [s_wn _ _ _ _ (by decide), s_wn _ _ _ _ (by decide), s_wn _ _ _ _ (by decide), s_wn _ _ _ _ (by decide), s_cp_n _ _ _ _ _ _ (by decide), s_cp_n _ _ _ _ _ _ (by decide), s_cp_in _ _ _ _ _ _ _ (by omega) (by omega)]
  rfl
theorem s_re_87 (σ : q_S) (z k : Nat) (hk : k < 6) : (s_re σ z).1 87 k = σ.1 96 (z + 50 + k) := by
  unfold s_re s_reE
  rw [s_wn _ _ _ _ (by decide), s_wn _ _ _ _ (by decide), s_wn _ _ _ _ (by decide), s_wn _ _ _ _ (by decide), s_cp_n _ _ _ _ _ _ (by decide), s_cp_in _ _ _ _ _ _ _ (by omega) (by omega), s_cp_n _ _ _ _ _ _ (by decide)]
  rfl
theorem s_re_88 (σ : q_S) (z k : Nat) (hk : k < 16) : (s_re σ z).1 88 k = σ.1 96 (z + 56 + k) := by
  unfold s_re s_reE
  rw [s_wn _ _ _ _ (by decide), s_wn _ _ _ _ (by decide), s_wn _ _ _ _ (by decide), s_wn _ _ _ _ (by decide), s_cp_in _ _ _ _ _ _ _ (by omega) (by omega), s_cp_n _ _ _ _ _ _ (by decide), s_cp_n _ _ _ _ _ _ (by decide)]
  rfl
theorem s_re_84 (σ : q_S) (z : Nat) : (s_re σ z).1 84 2 = σ.1 96 (z + 80) ∧ (s_re σ z).1 84 4 = σ.1 96 (z + 81) ∧ (s_re σ z).1 84 5 = σ.1 96 (z + 82) ∧ (s_re σ z).1 84 6 = σ.1 96 (z + 83) ∧ (s_re σ z).1 84 8 = σ.1 84 8 := ⟨rfl, rfl, rfl, rfl, rfl⟩
theorem o_restore_a (n a : Nat) (ha : a < 2) (σ : q_S) (h : Rel σ) (hI : rI σ a (34 + 17 * a)) : ∃ r σ1 σ2, f_X9_restore (n + 100) (nI a) σ = some (r, σ1) ∧ f_X10_restore (n + 100) (nI a) σ1 = some (r, σ2) ∧ Rel σ2 := by
  have hin : (0 ≤ nI a ∧ nI a ≤ 1) := (s_rng (nI a) 1 1 rfl).mpr ⟨a, ha, rfl⟩
  unfold f_X9_restore
  rw [s_wI, if_pos hin, if_neg (by decide), if_pos (nI_in ha (by decide)), nI_clamp (by omega)]
  rcases hI.2 with h0 | ⟨h1, hR⟩
  · rw [hI.1, h0]
    refine ⟨-3, σ, σ, rfl, ?_, h⟩
    unfold f_X10_restore
    rw [s_wM, if_pos hin, if_neg (by decide), if_pos (nI_in ha (by decide)), nI_clamp (by omega), h0]
    rfl
  · rw [hI.1, h1, if_neg (by decide)]
    obtain ⟨hB, hP, hI0, hI1⟩ := h
    obtain ⟨τ, hτ, hc⟩ := s_copy n 0 (34 + 17 * a) σ (by omega) (rB_BL hR)
    have hfr := hc.1
    rw [hτ]
    have f97 : τ.1 97 = σ.1 97 := hfr 97 (by omega)
    refine ⟨1, τ, s_re τ (90 * a), rfl, ?_, ?_⟩
    · unfold f_X10_restore
      rw [s_wM, if_pos hin, if_neg (by decide), if_pos (nI_in ha (by decide)), nI_clamp (by omega), f97, h1, if_neg (by decide)]
      exact s_restore n a ha τ
    · have low : ∀ p, 17 ≤ p → p ≠ 85 → p ≠ 87 → p ≠ 88 → p ≠ 84 → (s_re τ (90 * a)).1 p = σ.1 p := fun p h1 h2 h3 h4 h5 => by
        rw [s_re_n _ _ h2 h3 h4 h5]
        exact hfr p (by omega)
      have f96 : τ.1 96 = σ.1 96 := hfr 96 (by omega)
      have f84 : τ.1 84 = σ.1 84 := hfr 84 (by omega)
      have q84 := s_re_84 τ (90 * a)
      refine ⟨?_, rP_congr (low 69 (by omega) (by decide) (by decide) (by decide) (by decide)) (low 70 (by omega) (by decide) (by decide) (by decide) (by decide)) (by rw [q84.2.2.2.2, f84]) (low 89 (by omega) (by decide) (by decide) (by decide) (by decide)) hP, rI_congr (fun k hk => low _ (by omega) (by omega) (by omega) (by omega) (by omega)) (low 73 (by omega) (by decide) (by decide) (by decide) (by decide)) (low 97 (by omega) (by decide) (by decide) (by decide) (by decide)) (low 96 (by omega) (by decide) (by decide) (by decide) (by decide)) hI0, rI_congr (fun k hk => low _ (by omega) (by omega) (by omega) (by omega) (by omega)) (low 73 (by omega) (by decide) (by decide) (by decide) (by decide)) (low 97 (by omega) (by decide) (by decide) (by decide) (by decide)) (low 96 (by omega) (by decide) (by decide) (by decide) (by decide)) hI1⟩
      rw [q84.1, q84.2.1, q84.2.2.1, q84.2.2.2.1, f96]
      refine rB_row (rB_congr (fun k hk => ?_) (rB_copy hc hR)) (fun k hk => ?_) (fun k hk => ?_) (fun k hk => ?_)
      · exact s_re_n _ _ (by omega) (by omega) (by omega) (by omega)
      · rw [s_re_85 _ _ _ hk, f96]
      · rw [s_re_87 _ _ _ hk, f96]
      · rw [s_re_88 _ _ _ hk, f96]
theorem o_restore (n : Nat) (x : Int32) : Ok (f_X9_restore (n + 100) x) (f_X10_restore (n + 100) x) := by
  intro σ h
  by_cases hx : 0 ≤ x ∧ x ≤ 1
  · obtain ⟨a, ha, rfl⟩ := (s_rng x 1 1 rfl).mp hx
    refine o_restore_a n a ha σ h ?_
    rcases (show a = 0 ∨ a = 1 by omega) with rfl | rfl
    · exact h.2.2.1
    · exact h.2.2.2
  · unfold f_X9_restore f_X10_restore
    rw [s_wI, s_wM, if_neg hx]
    exact ⟨_, _, σ, rfl, rfl, h⟩
/-! the cell of an OTHER -/
def sO (σ : q_S) (r i : Nat) : Int32 := if σ.1 (r + 2 + i) 2 = 0 then (if σ.1 r 2 = 0 then σ.1 (r + 8 + i) (σ.1 (r + 2 + i) 1).toNatClampNeg else -6) else σ.1 (r + 2 + i) 3
theorem s_otherC (σ : q_S) (r i : Nat) (hl : rng (σ.1 (r + 2 + i) 1) 6) : f_X3_otherCell r (r + 2 + i) σ = some (sO σ r i) := by
  unfold f_X3_otherCell sO
  rw [show r + 2 + i + 6 = r + 8 + i by omega, if_pos (rng_in hl (by decide))]
  split
  · split <;> rfl
  · rfl
/-- the reference's row at 86, looked at for walker i -/
theorem s_hasP {w u B : Nat → Int32} {la : Int32} {i : Nat} (hi : i < 6) (h : rW w u B la i) (τ : q_S) (hτ : τ.1 86 (36 + i) = B (36 + i)) : f_X10_hasParted (nI i) τ = some (w 2) := by
  unfold f_X10_hasParted
  rw [show (36 : Int32) + nI i = nI (36 + i) from nI_add 36 i, if_pos (nI_in (show 36 + i < 50 by omega) (by decide)), nI_clamp (by omega), hτ]
  rcases h.2.1 with e | e
  · rw [h.2.2.2.2.2.1 e, e]
    rfl
  · have h7 := h.2.2.2.2.2.2.1 e
    rw [h7.1, e]
    obtain ⟨k, hk, e2⟩ := h7.2.2
    rw [e2, if_neg (nI_pos (by omega))]
theorem s_otherM {σ : q_S} {r : Nat} {B : Nat → Int32} {la : Int32} {i : Nat} (hi : i < 6) (h : rW (σ.1 (r + 2 + i)) (σ.1 (r + 8 + i)) B la i) (hth : σ.1 (r + 2 + i) 0 = 1) (hw : σ.1 r 2 = B 48) (hw2 : B 48 = 0 ∨ B 48 = 1) (τ : q_S) (hτ : ∀ k, k < 50 → τ.1 86 k = B k) (hl : τ.1 87 i = la) : f_X10_otherOf (nI i) τ = some (sO σ r i) := by
  unfold f_X10_otherOf sO
  rw [s_hasP hi h τ (hτ _ (by omega))]
  simp only [Option.bind_some]
  obtain ⟨-, hp, -, hla, ⟨l, hl6, hl2⟩, hp0, hp1, -, hrow, -, -⟩ := h
  rcases hp with e | e
  · rw [e, if_pos rfl, if_pos rfl]
    have e48 : τ.1 86 (48 : Int32).toNatClampNeg = B 48 := hτ 48 (by decide)
    rw [e48, hw]
    rcases hw2 with f | f
    · rw [f, if_neg (by decide), if_pos rfl, if_pos (nI_in hi (by decide)), nI_clamp (by omega), hl, hla, hl2, show (6 : Int32) * nI i = nI (6 * i) from pk_mul 6 i, nI_add, if_pos (nI_in (show 6 * i + l < 50 by omega) (by decide)), nI_clamp (by omega), nI_clamp (by omega), hτ _ (by omega), hrow hth l hl6]
    · rw [f]
      rfl
  · rw [e, if_neg (show ¬ ((1 : Int32) = 0) by decide), if_neg (show ¬ ((1 : Int32) = 0) by decide), show (36 : Int32) + nI i = nI (36 + i) from nI_add 36 i, if_pos (nI_in (show 36 + i < 50 by omega) (by decide)), nI_clamp (by omega), hτ _ (by omega), (hp1 e).1]
