theorem rI_keep {σ τ : q_S} {n r : Nat} (h : rI σ n r) (hb : ∀ k, k < 17 → τ.1 (r + k) = σ.1 (r + k)) (h73 : τ.1 73 n = σ.1 73 n) (h97 : τ.1 97 n = σ.1 97 n) (h96 : ∀ k, k < 84 → τ.1 96 (90 * n + k) = σ.1 96 (90 * n + k)) : rI τ n r := by
  unfold rI at *
  rw [h73, h97]
  refine ⟨h.1, ?_⟩
  rcases h.2 with h1 | ⟨h1, h2⟩
  · exact Or.inl h1
  · refine Or.inr ⟨h1, ?_⟩
    rw [h96 80 (by decide), h96 81 (by decide), h96 82 (by decide), h96 83 (by decide)]
    refine rB_row (rB_congr hb h2) (fun k hk => h96 k (by omega)) (fun k hk => ?_) (fun k hk => ?_)
    · have := h96 (50 + k) (by omega)
      rw [show 90 * n + 50 + k = 90 * n + (50 + k) by omega]
      exact this
    · have := h96 (56 + k) (by omega)
      rw [show 90 * n + 56 + k = 90 * n + (56 + k) by omega]
      exact this
theorem s_nz (a b : Nat) (v : Int32) (hv : v = nI b) : nI a + v = nI (a + b) := by
  subst hv
  exact nI_add a b
theorem s_ik {i n : Nat} (h : i < n) (hn : n < 2 ^ 31) : ¬ (nI i < 0 ∨ n ≤ i) := fun q => by
  rcases q with q | q
  · exact nI_pos (by omega) q
  · omega
theorem s_b1 : vp_nar .boolean 1 = 1 := by decide +kernel
def s_imE (σ : q_S) (z a : Nat) : q_S := q_w (q_w (q_w (q_w (q_w σ 96 (z + 80) (σ.1 84 2)) 96 (z + 81) (σ.1 84 4)) 96 (z + 82) (σ.1 84 5)) 96 (z + 83) (σ.1 84 6)) 97 a 1
def s_reE (σ : q_S) (z : Nat) : q_S := q_w (q_w (q_w (q_w σ 84 2 (σ.1 96 (z + 80))) 84 4 (σ.1 96 (z + 81))) 84 5 (σ.1 96 (z + 82))) 84 6 (σ.1 96 (z + 83))
theorem s_im3 (N a z : Nat) (ha : a < 2) (hz : z ≤ 90) : ∀ (d i m : Nat) (σ : q_S), i + d = 16 → d < m → f_X10_image_78 N (nI a) (nI z) m (nI i) σ = some (1, s_imE (q_cp σ 88 96 i (z + 56 + i) d) z a) := by
  intro d
  induction d with
  | zero =>
    intro i m σ h1 h2
    obtain ⟨m, rfl⟩ : ∃ m', m = m' + 1 := ⟨m - 1, by omega⟩
    have e : i = 16 := by omega
    subst e
    rw [f_X10_image_78, if_pos (by decide), s_cp_0]
    simp only [s_nz z 80 80 rfl, s_nz z 81 81 rfl, s_nz z 82 82 rfl, s_nz z 83 83 rfl, if_pos (s_ik (show z + 80 < 180 by omega) (by decide)), if_pos (s_ik (show z + 81 < 180 by omega) (by decide)), if_pos (s_ik (show z + 82 < 180 by omega) (by decide)), if_pos (s_ik (show z + 83 < 180 by omega) (by decide)), if_pos (s_ik ha (by decide)), nI_clamp (show z + 80 < 2 ^ 31 by omega), nI_clamp (show z + 81 < 2 ^ 31 by omega), nI_clamp (show z + 82 < 2 ^ 31 by omega), nI_clamp (show z + 83 < 2 ^ 31 by omega), nI_clamp (show a < 2 ^ 31 by omega), s_b1]
    rfl
  | succ d ih =>
    intro i m σ h1 h2
    obtain ⟨m, rfl⟩ : ∃ m', m = m' + 1 := ⟨m - 1, by omega⟩
    rw [f_X10_image_78, if_neg (show ¬ (16 : Int32) ≤ nI i from nI_ge (b := 16) (by omega) (by decide))]
    simp only [s_nz z 56 56 rfl, nI_add, if_pos (s_ik (show i < 16 by omega) (by decide)), if_pos (s_ik (show z + 56 + i < 180 by omega) (by decide)), nI_clamp (show i < 2 ^ 31 by omega), nI_clamp (show z + 56 + i < 2 ^ 31 by omega), nI_1]
    rw [ih (i + 1) m _ (by omega) (by omega), show z + 56 + (i + 1) = z + 56 + i + 1 from rfl, s_cp_s σ (by decide)]
theorem s_im2 (N a z : Nat) (ha : a < 2) (hz : z ≤ 90) : ∀ (d i m : Nat) (σ : q_S), i + d = 6 → d < m → f_X10_image_47 N (nI a) (nI z) m (nI i) σ = f_X10_image_78 N (nI a) (nI z) N 0 (q_cp σ 87 96 i (z + 50 + i) d) := by
  intro d
  induction d with
  | zero =>
    intro i m σ h1 h2
    obtain ⟨m, rfl⟩ : ∃ m', m = m' + 1 := ⟨m - 1, by omega⟩
    have e : i = 6 := by omega
    subst e
    rw [f_X10_image_47, if_pos (by decide), s_cp_0]
  | succ d ih =>
    intro i m σ h1 h2
    obtain ⟨m, rfl⟩ : ∃ m', m = m' + 1 := ⟨m - 1, by omega⟩
    rw [f_X10_image_47, if_neg (show ¬ (6 : Int32) ≤ nI i from nI_ge (b := 6) (by omega) (by decide))]
    simp only [s_nz z 50 50 rfl, nI_add, if_pos (s_ik (show i < 6 by omega) (by decide)), if_pos (s_ik (show z + 50 + i < 180 by omega) (by decide)), nI_clamp (show i < 2 ^ 31 by omega), nI_clamp (show z + 50 + i < 2 ^ 31 by omega), nI_1]
    rw [ih (i + 1) m _ (by omega) (by omega), show z + 50 + (i + 1) = z + 50 + i + 1 from rfl, s_cp_s σ (by decide)]
theorem s_im1 (N a z : Nat) (ha : a < 2) (hz : z ≤ 90) : ∀ (d i m : Nat) (σ : q_S), i + d = 50 → d < m → f_X10_image_19 N (nI a) (nI z) m (nI i) σ = f_X10_image_47 N (nI a) (nI z) N 0 (q_cp σ 85 96 i (z + i) d) := by
  intro d
  induction d with
  | zero =>
    intro i m σ h1 h2
    obtain ⟨m, rfl⟩ : ∃ m', m = m' + 1 := ⟨m - 1, by omega⟩
    have e : i = 50 := by omega
    subst e
    rw [f_X10_image_19, if_pos (by decide), s_cp_0]
  | succ d ih =>
    intro i m σ h1 h2
    obtain ⟨m, rfl⟩ : ∃ m', m = m' + 1 := ⟨m - 1, by omega⟩
    rw [f_X10_image_19, if_neg (show ¬ (50 : Int32) ≤ nI i from nI_ge (b := 50) (by omega) (by decide))]
    simp only [nI_add, if_pos (s_ik (show i < 50 by omega) (by decide)), if_pos (s_ik (show z + i < 180 by omega) (by decide)), nI_clamp (show i < 2 ^ 31 by omega), nI_clamp (show z + i < 2 ^ 31 by omega), nI_1]
    rw [ih (i + 1) m _ (by omega) (by omega), show z + (i + 1) = z + i + 1 from rfl, s_cp_s σ (by decide)]
theorem s_re3 (N a z : Nat) (ha : a < 2) (hz : z ≤ 90) : ∀ (d i m : Nat) (σ : q_S), i + d = 16 → d < m → f_X10_restore_90 N (nI z) m (nI i) σ = some (1, s_reE (q_cp σ 96 88 (z + 56 + i) i d) z) := by
  intro d
  induction d with
  | zero =>
    intro i m σ h1 h2
    obtain ⟨m, rfl⟩ : ∃ m', m = m' + 1 := ⟨m - 1, by omega⟩
    have e : i = 16 := by omega
    subst e
    rw [f_X10_restore_90, if_pos (by decide), s_cp_0]
    simp only [s_nz z 80 80 rfl, s_nz z 81 81 rfl, s_nz z 82 82 rfl, s_nz z 83 83 rfl, if_pos (s_ik (show z + 80 < 180 by omega) (by decide)), if_pos (s_ik (show z + 81 < 180 by omega) (by decide)), if_pos (s_ik (show z + 82 < 180 by omega) (by decide)), if_pos (s_ik (show z + 83 < 180 by omega) (by decide)), nI_clamp (show z + 80 < 2 ^ 31 by omega), nI_clamp (show z + 81 < 2 ^ 31 by omega), nI_clamp (show z + 82 < 2 ^ 31 by omega), nI_clamp (show z + 83 < 2 ^ 31 by omega)]
    rfl
  | succ d ih =>
    intro i m σ h1 h2
    obtain ⟨m, rfl⟩ : ∃ m', m = m' + 1 := ⟨m - 1, by omega⟩
    rw [f_X10_restore_90, if_neg (show ¬ (16 : Int32) ≤ nI i from nI_ge (b := 16) (by omega) (by decide))]
    simp only [s_nz z 56 56 rfl, nI_add, if_pos (s_ik (show i < 16 by omega) (by decide)), if_pos (s_ik (show z + 56 + i < 180 by omega) (by decide)), nI_clamp (show i < 2 ^ 31 by omega), nI_clamp (show z + 56 + i < 2 ^ 31 by omega), nI_1]
    rw [ih (i + 1) m _ (by omega) (by omega), show z + 56 + (i + 1) = z + 56 + i + 1 from rfl, s_cp_s σ (by decide)]
theorem s_re2 (N a z : Nat) (ha : a < 2) (hz : z ≤ 90) : ∀ (d i m : Nat) (σ : q_S), i + d = 6 → d < m → f_X10_restore_59 N (nI z) m (nI i) σ = f_X10_restore_90 N (nI z) N 0 (q_cp σ 96 87 (z + 50 + i) i d) := by
  intro d
  induction d with
  | zero =>
    intro i m σ h1 h2
    obtain ⟨m, rfl⟩ : ∃ m', m = m' + 1 := ⟨m - 1, by omega⟩
    have e : i = 6 := by omega
    subst e
    rw [f_X10_restore_59, if_pos (by decide), s_cp_0]
  | succ d ih =>
    intro i m σ h1 h2
    obtain ⟨m, rfl⟩ : ∃ m', m = m' + 1 := ⟨m - 1, by omega⟩
    rw [f_X10_restore_59, if_neg (show ¬ (6 : Int32) ≤ nI i from nI_ge (b := 6) (by omega) (by decide))]
    simp only [s_nz z 50 50 rfl, nI_add, if_pos (s_ik (show i < 6 by omega) (by decide)), if_pos (s_ik (show z + 50 + i < 180 by omega) (by decide)), nI_clamp (show i < 2 ^ 31 by omega), nI_clamp (show z + 50 + i < 2 ^ 31 by omega), nI_1]
    rw [ih (i + 1) m _ (by omega) (by omega), show z + 50 + (i + 1) = z + 50 + i + 1 from rfl, s_cp_s σ (by decide)]
theorem s_re1 (N a z : Nat) (ha : a < 2) (hz : z ≤ 90) : ∀ (d i m : Nat) (σ : q_S), i + d = 50 → d < m → f_X10_restore_31 N (nI z) m (nI i) σ = f_X10_restore_59 N (nI z) N 0 (q_cp σ 96 85 (z + i) i d) := by
  intro d
  induction d with
  | zero =>
    intro i m σ h1 h2
    obtain ⟨m, rfl⟩ : ∃ m', m = m' + 1 := ⟨m - 1, by omega⟩
    have e : i = 50 := by omega
    subst e
    rw [f_X10_restore_31, if_pos (by decide), s_cp_0]
  | succ d ih =>
    intro i m σ h1 h2
    obtain ⟨m, rfl⟩ : ∃ m', m = m' + 1 := ⟨m - 1, by omega⟩
    rw [f_X10_restore_31, if_neg (show ¬ (50 : Int32) ≤ nI i from nI_ge (b := 50) (by omega) (by decide))]
    simp only [nI_add, if_pos (s_ik (show i < 50 by omega) (by decide)), if_pos (s_ik (show z + i < 180 by omega) (by decide)), nI_clamp (show i < 2 ^ 31 by omega), nI_clamp (show z + i < 2 ^ 31 by omega), nI_1]
    rw [ih (i + 1) m _ (by omega) (by omega), show z + (i + 1) = z + i + 1 from rfl, s_cp_s σ (by decide)]
def s_im (σ : q_S) (z a : Nat) : q_S := s_imE (q_cp (q_cp (q_cp σ 85 96 0 z 50) 87 96 0 (z + 50) 6) 88 96 0 (z + 56) 16) z a
def s_re (σ : q_S) (z : Nat) : q_S := s_reE (q_cp (q_cp (q_cp σ 96 85 z 0 50) 96 87 (z + 50) 0 6) 96 88 (z + 56) 0 16) z
theorem s_image (n a : Nat) (ha : a < 2) (σ : q_S) : f_X10_image (n + 100) (nI a) σ = some (1, s_im σ (90 * a) a) := by
  unfold f_X10_image
  rw [s_wM, if_pos ((s_rng (nI a) 1 1 rfl).mpr ⟨a, ha, rfl⟩), if_neg (by decide), show (90 : Int32) * nI a = nI (90 * a) from pk_mul 90 a]
  refine Eq.trans (s_im1 _ a (90 * a) ha (by omega) 50 0 _ σ (by decide) (by omega)) ?_
  refine Eq.trans (s_im2 _ a (90 * a) ha (by omega) 6 0 _ _ (by decide) (by omega)) ?_
  exact s_im3 _ a (90 * a) ha (by omega) 16 0 _ _ (by decide) (by omega)
theorem s_restore (n a : Nat) (ha : a < 2) (σ : q_S) : f_X10_restore_31 (n + 100) (90 * nI a) (n + 100) 0 σ = some (1, s_re σ (90 * a)) := by
  rw [show (90 : Int32) * nI a = nI (90 * a) from pk_mul 90 a]
  refine Eq.trans (s_re1 _ a (90 * a) ha (by omega) 50 0 _ σ (by decide) (by omega)) ?_
  refine Eq.trans (s_re2 _ a (90 * a) ha (by omega) 6 0 _ _ (by decide) (by omega)) ?_
  exact s_re3 _ a (90 * a) ha (by omega) 16 0 _ _ (by decide) (by omega)
theorem s_cp_in (σ : q_S) (a b x y n k : Nat) (h1 : y ≤ k) (h2 : k < y + n) : (q_cp σ a b x y n).1 b k = σ.1 a (x + (k - y)) := by
  show (if b = b then va_cpy (σ.1 a) (σ.1 b) x y n else σ.1 b) k = _
  rw [if_pos rfl, pk_cpy_in h1 h2]
theorem s_cp_out (σ : q_S) (a b x y n k : Nat) (h : k < y ∨ y + n ≤ k) : (q_cp σ a b x y n).1 b k = σ.1 b k := by
  show (if b = b then va_cpy (σ.1 a) (σ.1 b) x y n else σ.1 b) k = _
  rw [if_pos rfl, pk_cpy_out h]
theorem s_im_n (σ : q_S) (z a : Nat) {p : Nat} (h1 : p ≠ 96) (h2 : p ≠ 97) : (s_im σ z a).1 p = σ.1 p := by
  unfold s_im s_imE
  rw [s_wn _ _ _ _ h2, s_wn _ _ _ _ h1, s_wn _ _ _ _ h1, s_wn _ _ _ _ h1, s_wn _ _ _ _ h1, s_cp_n _ _ _ _ _ _ h1, s_cp_n _ _ _ _ _ _ h1, s_cp_n _ _ _ _ _ _ h1]
theorem s_im_97 (σ : q_S) (z a k : Nat) : (s_im σ z a).1 97 k = upd (σ.1 97) a 1 k := by
  unfold s_im s_imE
  rw [s_w1]
  rfl
theorem s_im_96 (σ : q_S) (z a k : Nat) : (s_im σ z a).1 96 k = if k = z + 83 then σ.1 84 6 else if k = z + 82 then σ.1 84 5 else if k = z + 81 then σ.1 84 4 else if k = z + 80 then σ.1 84 2 else if z + 56 ≤ k ∧ k < z + 72 then σ.1 88 (k - (z + 56)) else if z + 50 ≤ k ∧ k < z + 56 then σ.1 87 (k - (z + 50)) else if z ≤ k ∧ k < z + 50 then σ.1 85 (k - z) else σ.1 96 k := by
  unfold s_im s_imE
  rw [s_wn _ _ _ _ (show 96 ≠ 97 by decide), s_w1]
  unfold upd
  by_cases h1 : k = z + 83
  · rw [if_pos h1, if_pos h1]
    rfl
  · rw [if_neg h1, if_neg h1, s_w1]
    unfold upd
    by_cases h2 : k = z + 82
    · rw [if_pos h2, if_pos h2]
      rfl
    · rw [if_neg h2, if_neg h2, s_w1]
      unfold upd
      by_cases h3 : k = z + 81
      · rw [if_pos h3, if_pos h3]
        rfl
      · rw [if_neg h3, if_neg h3, s_w1]
        unfold upd
        by_cases h4 : k = z + 80
        · rw [if_pos h4, if_pos h4]
          rfl
        · rw [if_neg h4, if_neg h4]
          by_cases h5 : z + 56 ≤ k ∧ k < z + 72
          · rw [if_pos h5, s_cp_in _ _ _ _ _ _ _ h5.1 (by omega), s_cp_n _ _ _ _ _ _ (by decide), s_cp_n _ _ _ _ _ _ (by decide), Nat.zero_add]
          · rw [if_neg h5, s_cp_out _ _ _ _ _ _ _ (by omega)]
            by_cases h6 : z + 50 ≤ k ∧ k < z + 56
            · rw [if_pos h6, s_cp_in _ _ _ _ _ _ _ h6.1 (by omega), s_cp_n _ _ _ _ _ _ (by decide), Nat.zero_add]
            · rw [if_neg h6, s_cp_out _ _ _ _ _ _ _ (by omega)]
              by_cases h7 : z ≤ k ∧ k < z + 50
              · rw [if_pos h7, s_cp_in _ _ _ _ _ _ _ h7.1 (by omega), Nat.zero_add]
              · rw [if_neg h7, s_cp_out _ _ _ _ _ _ _ (by omega)]
theorem o_image_a (n a : Nat) (ha : a < 2) (σ : q_S) (h : Rel σ) : ∃ r σ1 σ2, f_X9_image (n + 100) (nI a) σ = some (r, σ1) ∧ f_X10_image (n + 100) (nI a) σ1 = some (r, σ2) ∧ Rel σ2 := by
  obtain ⟨hB, hP, hI0, hI1⟩ := h
  obtain ⟨τ, hτ, hc⟩ := s_copy n (34 + 17 * a) 0 σ (by omega) (rB_BL hB)
  have hfr := hc.1
  refine ⟨1, q_w τ 73 a 1, s_im (q_w τ 73 a 1) (90 * a) a, ?_, s_image n a ha _, ?_⟩
  · unfold f_X9_image
    rw [s_wI, if_pos ((s_rng (nI a) 1 1 rfl).mpr ⟨a, ha, rfl⟩), if_neg (by decide), if_pos (nI_in ha (by decide)), nI_clamp (by omega), hτ, s_b1]
    rfl
  · have low : ∀ p, (p < 34 + 17 * a ∨ 34 + 17 * a + 17 ≤ p) → p ≠ 73 → p ≠ 96 → p ≠ 97 → (s_im (q_w τ 73 a 1) (90 * a) a).1 p = σ.1 p := fun p h1 h2 h3 h4 => by
      rw [s_im_n _ _ _ h3 h4, s_wn _ _ _ _ h2]
      exact hfr p h1
    have hBnew : rB τ (34 + 17 * a) (σ.1 85) (σ.1 87) (σ.1 88) (σ.1 84 2) (σ.1 84 4) (σ.1 84 5) (σ.1 84 6) := rB_copy hc hB
    have v84 : (q_w τ 73 a 1).1 84 = σ.1 84 := by rw [s_wn _ _ _ _ (by decide)]; exact hfr 84 (by omega)
    have v85 : (q_w τ 73 a 1).1 85 = σ.1 85 := by rw [s_wn _ _ _ _ (by decide)]; exact hfr 85 (by omega)
    have v87 : (q_w τ 73 a 1).1 87 = σ.1 87 := by rw [s_wn _ _ _ _ (by decide)]; exact hfr 87 (by omega)
    have v88 : (q_w τ 73 a 1).1 88 = σ.1 88 := by rw [s_wn _ _ _ _ (by decide)]; exact hfr 88 (by omega)
    have v96 : (q_w τ 73 a 1).1 96 = σ.1 96 := by rw [s_wn _ _ _ _ (by decide)]; exact hfr 96 (by omega)
    have v97 : (q_w τ 73 a 1).1 97 = σ.1 97 := by rw [s_wn _ _ _ _ (by decide)]; exact hfr 97 (by omega)
    have hnew : rI (s_im (q_w τ 73 a 1) (90 * a) a) a (34 + 17 * a) := by
      unfold rI
      refine ⟨?_, Or.inr ⟨?_, ?_⟩⟩
      · rw [s_im_n _ _ _ (by decide) (by decide), s_w1, s_u1, s_im_97, s_u1]
      · rw [s_im_97, s_u1]
      · have e80 : (s_im (q_w τ 73 a 1) (90 * a) a).1 96 (90 * a + 80) = σ.1 84 2 := by
          rw [s_im_96, if_neg (by omega), if_neg (by omega), if_neg (by omega), if_pos rfl, v84]
        have e81 : (s_im (q_w τ 73 a 1) (90 * a) a).1 96 (90 * a + 81) = σ.1 84 4 := by
          rw [s_im_96, if_neg (by omega), if_neg (by omega), if_pos rfl, v84]
        have e82 : (s_im (q_w τ 73 a 1) (90 * a) a).1 96 (90 * a + 82) = σ.1 84 5 := by
          rw [s_im_96, if_neg (by omega), if_pos rfl, v84]
        have e83 : (s_im (q_w τ 73 a 1) (90 * a) a).1 96 (90 * a + 83) = σ.1 84 6 := by
          rw [s_im_96, if_pos rfl, v84]
        rw [e80, e81, e82, e83]
        refine rB_row (rB_congr (fun k hk => ?_) hBnew) (fun k hk => ?_) (fun k hk => ?_) (fun k hk => ?_)
        · rw [s_im_n _ _ _ (by omega) (by omega), s_wn _ _ _ _ (by omega)]
        · show (s_im (q_w τ 73 a 1) (90 * a) a).1 96 (90 * a + k) = σ.1 85 k
          rw [s_im_96, if_neg (by omega), if_neg (by omega), if_neg (by omega), if_neg (by omega), if_neg (by omega), if_neg (by omega), if_pos (by omega), v85]
          exact congrArg (σ.1 85) (by omega)
        · show (s_im (q_w τ 73 a 1) (90 * a) a).1 96 (90 * a + 50 + k) = σ.1 87 k
          rw [s_im_96, if_neg (by omega), if_neg (by omega), if_neg (by omega), if_neg (by omega), if_neg (by omega), if_pos (by omega), v87]
          exact congrArg (σ.1 87) (by omega)
        · show (s_im (q_w τ 73 a 1) (90 * a) a).1 96 (90 * a + 56 + k) = σ.1 88 k
          rw [s_im_96, if_neg (by omega), if_neg (by omega), if_neg (by omega), if_neg (by omega), if_pos (by omega), v88]
          exact congrArg (σ.1 88) (by omega)
    have hkeep : ∀ b, b < 2 → b ≠ a → rI σ b (34 + 17 * b) → rI (s_im (q_w τ 73 a 1) (90 * a) a) b (34 + 17 * b) := fun b hb hba hI => by
      refine rI_keep hI (fun k hk => low _ (by omega) (by omega) (by omega) (by omega)) ?_ ?_ (fun k hk => ?_)
      · rw [s_im_n _ _ _ (by decide) (by decide), s_w1, s_un _ _ _ hba]
        exact congrFun (hfr 73 (by omega)) b
      · rw [s_im_97, s_un _ _ _ hba, v97]
      · rw [s_im_96, if_neg (by omega), if_neg (by omega), if_neg (by omega), if_neg (by omega), if_neg (by omega), if_neg (by omega), if_neg (by omega), v96]
    refine ⟨?_, rP_congr (low 69 (by omega) (by decide) (by decide) (by decide)) (low 70 (by omega) (by decide) (by decide) (by decide)) (congrFun (low 84 (by omega) (by decide) (by decide) (by decide)) 8) (low 89 (by omega) (by decide) (by decide) (by decide)) hP, ?_, ?_⟩
    · rw [low 84 (by omega) (by decide) (by decide) (by decide), low 85 (by omega) (by decide) (by decide) (by decide), low 87 (by omega) (by decide) (by decide) (by decide), low 88 (by omega) (by decide) (by decide) (by decide)]
      exact rB_congr (fun k hk => low _ (by omega) (by omega) (by omega) (by omega)) hB
    · by_cases h0 : a = 0
      · subst h0; exact hnew
      · exact hkeep 0 (by decide) (fun q => h0 q.symm) hI0
    · by_cases h1 : a = 1
      · subst h1; exact hnew
      · exact hkeep 1 (by decide) (fun q => h1 q.symm) hI1
theorem o_image (n : Nat) (x : Int32) : Ok (f_X9_image (n + 100) x) (f_X10_image (n + 100) x) := by
  intro σ h
  by_cases hx : 0 ≤ x ∧ x ≤ 1
  · obtain ⟨a, ha, rfl⟩ := (s_rng x 1 1 rfl).mp hx
    exact o_image_a n a ha σ h
  · unfold f_X9_image f_X10_image
    rw [s_wI, s_wM, if_neg hx]
    exact ⟨_, _, σ, rfl, rfl, h⟩
