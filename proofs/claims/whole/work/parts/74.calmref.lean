/-! calm: the reference's side -/
theorem r_60 (N : Nat) (x1 x2 x3 x4 x5 : Int32) (x6 : Int64) (σ0 : q_S) : ∀ (d i m : Nat) (σ : q_S), i + d = 256 → d < m → σ.1 = σ0.1 → (∀ j, j < i → σ.2 94 j = lN (if j = 0 then 1 else 0)) → ∃ σ', f_X10_calm_60 N x1 x2 x3 x4 x5 x6 m (nI i) σ = f_X10_calm_94 N x1 x2 x3 x4 x5 N x6 0 σ' ∧ σ'.1 = σ0.1 ∧ ∀ j, j < 256 → σ'.2 94 j = lN (if j = 0 then 1 else 0) := by
  intro d
  induction d with
  | zero =>
    intro i m σ h1 h2 h3 h4
    obtain ⟨m, rfl⟩ : ∃ m', m = m' + 1 := ⟨m - 1, by omega⟩
    have e : i = 256 := by omega
    subst e
    exact ⟨σ, by rw [f_X10_calm_60, if_pos (show (256 : Int32) ≤ nI 256 by decide)], h3, h4⟩
  | succ d ih =>
    intro i m σ h1 h2 h3 h4
    obtain ⟨m, rfl⟩ : ∃ m', m = m' + 1 := ⟨m - 1, by omega⟩
    have hi : i < 256 := by omega
    rw [f_X10_calm_60, if_neg (show ¬ (256 : Int32) ≤ nI i from nI_ge (b := 256) hi (by decide)), if_pos (nI_in hi (by decide)), nI_1, nI_clamp (by omega)]
    by_cases hi0 : i = 0
    · rw [if_pos (show nI i = 0 by rw [hi0]; rfl)]
      refine ih (i + 1) m _ (by omega) (by omega) h3 (fun j hj => ?_)
      have hj0 : j = i := by omega
      rw [l_w1, hj0, pk_uLs, if_pos hi0]
      rfl
    · rw [if_neg (nI_ne0 (by omega) (by omega)), if_pos (s_ik hi (by decide))]
      refine ih (i + 1) m _ (by omega) (by omega) h3 (fun j hj => ?_)
      rw [l_w1]
      by_cases hji : j = i
      · rw [hji, pk_uLs, if_neg hi0]
        rfl
      · rw [pk_uLn hji]
        exact h4 j (by omega)
theorem r_111 (N : Nat) (k94 : Int64 → Int32 → q_S → Option (Int64 × q_S)) (x1 x2 x3 x4 x5 : Int32) (x6 : Int64) (x8 : Int32) (σ0 : q_S) : ∀ (d i m : Nat) (σ : q_S), i + d = 256 → d < m → σ.1 = σ0.1 → σ.2 94 = σ0.2 94 → (∀ j, j < i → σ.2 95 j = 0) → ∃ σ', f_X10_calm_111 N k94 x1 x2 x3 x4 x5 x6 x8 m (nI i) σ = f_X10_calm_136 N k94 x1 x2 x3 x4 x5 x6 x8 N 0 σ' ∧ σ'.1 = σ0.1 ∧ σ'.2 94 = σ0.2 94 ∧ ∀ j, j < 256 → σ'.2 95 j = 0 := by
  intro d
  induction d with
  | zero =>
    intro i m σ h1 h2 h3 h4 h5
    obtain ⟨m, rfl⟩ : ∃ m', m = m' + 1 := ⟨m - 1, by omega⟩
    have e : i = 256 := by omega
    subst e
    exact ⟨σ, by rw [f_X10_calm_111, if_pos (show (256 : Int32) ≤ nI 256 by decide)], h3, h4, h5⟩
  | succ d ih =>
    intro i m σ h1 h2 h3 h4 h5
    obtain ⟨m, rfl⟩ : ∃ m', m = m' + 1 := ⟨m - 1, by omega⟩
    have hi : i < 256 := by omega
    rw [f_X10_calm_111, if_neg (show ¬ (256 : Int32) ≤ nI i from nI_ge (b := 256) hi (by decide)), if_pos (nI_in hi (by decide)), nI_1, nI_clamp (by omega)]
    refine ih (i + 1) m _ (by omega) (by omega) h3 (by rw [l_wn _ _ _ _ (by decide)]; exact h4) (fun j hj => ?_)
    rw [l_w1]
    by_cases hji : j = i
    · rw [hji, pk_uLs]
    · rw [pk_uLn hji]
      exact h5 j (by omega)
theorem r_253 (N : Nat) (k94 : Int64 → Int32 → q_S → Option (Int64 × q_S)) (x1 x2 x3 x4 x5 : Int32) (x6 : Int64) (b : Nat) (σ0 : q_S) : ∀ (d i m : Nat) (σ : q_S), i + d = 256 → d < m → σ.1 = σ0.1 → σ.2 95 = σ0.2 95 → (∀ j, j < i → σ.2 94 j = σ0.2 95 j) → ∃ σ', f_X10_calm_253 N k94 x1 x2 x3 x4 x5 x6 (nI b) m (nI i) σ = k94 x6 (nI (b + 1)) σ' ∧ σ'.1 = σ0.1 ∧ ∀ j, j < 256 → σ'.2 94 j = σ0.2 95 j := by
  intro d
  induction d with
  | zero =>
    intro i m σ h1 h2 h3 h4 h5
    obtain ⟨m, rfl⟩ : ∃ m', m = m' + 1 := ⟨m - 1, by omega⟩
    have e : i = 256 := by omega
    subst e
    exact ⟨σ, by rw [f_X10_calm_253, if_pos (show (256 : Int32) ≤ nI 256 by decide), nI_1], h3, h5⟩
  | succ d ih =>
    intro i m σ h1 h2 h3 h4 h5
    obtain ⟨m, rfl⟩ : ∃ m', m = m' + 1 := ⟨m - 1, by omega⟩
    have hi : i < 256 := by omega
    rw [f_X10_calm_253, if_neg (show ¬ (256 : Int32) ≤ nI i from nI_ge (b := 256) hi (by decide)), if_pos (nI_in hi (by decide)), nI_1, nI_clamp (by omega)]
    refine ih (i + 1) m _ (by omega) (by omega) h3 (by rw [l_wn _ _ _ _ (by decide)]; exact h4) (fun j hj => ?_)
    rw [l_w1]
    by_cases hji : j = i
    · rw [hji, pk_uLs, h4]
    · rw [pk_uLn hji]
      exact h5 j (by omega)
/-- the table at b: where it may be above 0, and all its weighted sums -/
def TB (b : Nat) (w : Nat → Nat) : Prop := ∀ j, j < 256 → 0 < w j → j / 16 ≤ b ∧ j % 16 ≤ j / 16
def TS (w : Nat → Nat) (g : Nat → Nat → Nat) : Nat := su (fun j => w j * g (j / 16) (j % 16)) 256
theorem r_136 (N : Nat) (k94 : Int64 → Int32 → q_S → Option (Int64 × q_S)) (x1 x3 x4 x5 x8 : Int32) (x6 : Int64) (t b : Nat) (ht : t ≤ 10) (hb : b < 15) (w : Nat → Nat) (hw : ∀ j, j < 256 → w j < 2 ^ 63) (hB : TB b w) (σ0 : q_S) (h94 : ∀ j, j < 256 → σ0.2 94 j = lN (w j)) : ∀ (d i m : Nat) (σ : q_S) (nx : Nat → Nat), i + d = 256 → d < m → σ.1 = σ0.1 → σ.2 94 = σ0.2 94 → (∀ j, j < 256 → σ.2 95 j = lN (nx j)) → TB (b + 1) nx → (∀ g, TS nx g = su (fun j => w j * (t * g (mo (j / 16) (j % 16)) (j % 16 + 1) + (10 - t) * g (j / 16) 0)) i) → ∃ σ' nx', f_X10_calm_136 N k94 x1 (nI t) x3 x4 x5 x6 x8 m (nI i) σ = f_X10_calm_253 N k94 x1 (nI t) x3 x4 x5 x6 x8 N 0 σ' ∧ σ'.1 = σ0.1 ∧ (∀ j, j < 256 → σ'.2 95 j = lN (nx' j)) ∧ TB (b + 1) nx' ∧ (∀ g, TS nx' g = TS w (fun l k => t * g (mo l k) (k + 1) + (10 - t) * g l 0)) := by
  intro d
  induction d with
  | zero =>
    intro i m σ nx h1 h2 h3 h4 h5 h6 h7
    obtain ⟨m, rfl⟩ : ∃ m', m = m' + 1 := ⟨m - 1, by omega⟩
    have e : i = 256 := by omega
    subst e
    exact ⟨σ, nx, by rw [f_X10_calm_136, if_pos (show (256 : Int32) ≤ nI 256 by decide)], h3, h5, h6, h7⟩
  | succ d ih =>
    intro i m σ nx h1 h2 h3 h4 h5 h6 h7
    obtain ⟨m, rfl⟩ : ∃ m', m = m' + 1 := ⟨m - 1, by omega⟩
    have hi : i < 256 := by omega
    have hwi := hw i hi
    rw [f_X10_calm_136, if_neg (show ¬ (256 : Int32) ≤ nI i from nI_ge (b := 256) hi (by decide)), if_pos (nI_in hi (by decide)), nI_clamp (show i < _ by omega), nI_1, h4, h94 i hi]
    by_cases hz : w i = 0
    · rw [if_pos (by rw [lg_cmp_le, hz]; decide)]
      refine ih (i + 1) m σ nx (by omega) (by omega) h3 h4 h5 h6 (fun g => ?_)
      rw [h7 g, su, hz, Nat.zero_mul, Nat.add_zero]
    · obtain ⟨b1, b2⟩ := hB i hi (by omega)
      have hgt : ¬ lg_cmp (lN (w i)) 0 ≤ 0 := by
        rw [lg_cmp_le, show (0 : Int64) = lN 0 from rfl, pk_lLE hwi (by decide)]
        omega
      have d1 : nI i / 16 = nI (i / 16) := pk_div (d := 16) (by omega) (by decide) (by decide)
      have d2 : q_rem (nI i) 16 = nI (i % 16) := pk_rem (d := 16) (by omega) (by decide) (by decide)
      rw [if_neg hgt, d1, d2, nI_1]
      have hmo : (i % 16 + 1 ≤ mo (i / 16) (i % 16)) ∧ mo (i / 16) (i % 16) ≤ b + 1 := by
        unfold mo
        split <;> omega
      have hif : ∀ (k : Int32 → Option (Int64 × q_S)), (if nI (i % 16 + 1) ≤ nI (i / 16) then k (nI (i / 16)) else k (nI (i % 16 + 1))) = k (nI (mo (i / 16) (i % 16))) := by
        intro k
        unfold mo
        by_cases h : i % 16 + 1 ≤ i / 16
        · rw [if_pos h, if_pos (nI_le h (by omega))]
        · rw [if_neg h, if_neg (nI_ge (by omega) (by omega))]
      rw [hif (fun y => f_X10_calm_188 N k94 (fun x9 σ => f_X10_calm_136 N k94 x1 (nI t) x3 x4 x5 x6 x8 m x9 σ) x1 (nI t) x3 x4 x5 x6 x8 (nI i) (nI (i / 16)) (nI (i % 16)) y σ)]
      unfold f_X10_calm_188
      have hp : (16 : Int32) * nI (mo (i / 16) (i % 16)) + nI (i % 16) + 1 = nI (16 * mo (i / 16) (i % 16) + i % 16 + 1) := by
        rw [show (16 : Int32) * nI (mo (i / 16) (i % 16)) = nI (16 * mo (i / 16) (i % 16)) from pk_mul 16 _, nI_add, nI_1]
      have hq : (16 : Int32) * nI (i / 16) = nI (16 * (i / 16)) := pk_mul 16 _
      rw [hp, hq]
      generalize hP : 16 * mo (i / 16) (i % 16) + i % 16 + 1 = P
      generalize hQ : 16 * (i / 16) = Q
      have hP1 : P / 16 = mo (i / 16) (i % 16) := by omega
      have hP2 : P % 16 = i % 16 + 1 := by omega
      have hQ1 : Q / 16 = i / 16 := by omega
      have hQ2 : Q % 16 = 0 := by omega
      have hPl : P < 256 := by omega
      have hQl : Q < 256 := by omega
      rw [if_pos (nI_in hPl (by decide)), if_pos (nI_in hi (by decide)), if_pos (nI_in hQl (by decide)), nI_clamp (show P < _ by omega), nI_clamp (show Q < _ by omega), nI_clamp (show i < _ by omega), nI_1, l_wn _ _ _ _ (show (94 : Nat) ≠ 95 by decide), h4, h94 i hi, show (10 : Int32) - nI t = nI (10 - t) from pk_sub (a := 10) ht, nI_l (show 10 - t < _ by omega), nI_l (show t < _ by omega), lN_mul, lN_mul, h5 P hPl, lN_add]
      have hn1 : ∀ j, j < 256 → (q_wl σ 95 P (lN (nx P + w i * t))).2 95 j = lN (if j = P then nx j + w i * t else nx j) := by
        intro j hj
        rw [l_w1]
        by_cases hjP : j = P
        · rw [hjP, pk_uLs, if_pos rfl]
        · rw [pk_uLn hjP, if_neg hjP]
          exact h5 j hj
      rw [hn1 Q hQl, lN_add]
      let n1 : Nat → Nat := fun j => if j = P then nx j + w i * t else nx j
      let n2 : Nat → Nat := fun j => if j = Q then n1 j + w i * (10 - t) else n1 j
      refine ih (i + 1) m _ n2 (by omega) (by omega) h3 (by rw [l_wn _ _ _ _ (by decide), l_wn _ _ _ _ (by decide)]; exact h4) (fun j hj => ?_) (fun j hj hpos => ?_) (fun g => ?_)
      · rw [l_w1]
        by_cases hjQ : j = Q
        · rw [hjQ, pk_uLs]
          show _ = lN (if Q = Q then n1 Q + w i * (10 - t) else n1 Q)
          rw [if_pos rfl]
        · rw [pk_uLn hjQ, hn1 j hj]
          show _ = lN (if j = Q then n1 j + w i * (10 - t) else n1 j)
          rw [if_neg hjQ]
      · by_cases hjQ : j = Q
        · subst hjQ
          omega
        · by_cases hjP : j = P
          · subst hjP
            omega
          · have h : n2 j = nx j := by
              show (if j = Q then n1 j + w i * (10 - t) else n1 j) = nx j
              rw [if_neg hjQ]
              exact if_neg hjP
            rw [h] at hpos
            exact h6 j hj hpos
      · have s1 : TS n1 g = TS nx g + w i * t * g (mo (i / 16) (i % 16)) (i % 16 + 1) := by
          have := su_inc (f := nx) (h := n1) (g := fun j => g (j / 16) (j % 16)) (w i * t) P (fun j hj => if_neg hj) (if_pos rfl) 256
          rw [if_pos hPl, hP1, hP2] at this
          exact this
        have s2 : TS n2 g = TS n1 g + w i * (10 - t) * g (i / 16) 0 := by
          have := su_inc (f := n1) (h := n2) (g := fun j => g (j / 16) (j % 16)) (w i * (10 - t)) Q (fun j hj => if_neg hj) (if_pos rfl) 256
          rw [if_pos hQl, hQ1, hQ2] at this
          exact this
        rw [s2, s1, h7 g, su, Nat.mul_add, Nat.mul_assoc, Nat.mul_assoc, Nat.add_assoc]
theorem r_94 (N : Nat) (hN : 1000 < N) (x3 x4 x5 : Int32) (t n : Nat) (ht : t ≤ 10) (hn : n ≤ 15) (σ0 : q_S) : ∀ (d b m : Nat) (σ : q_S) (w : Nat → Nat), b + d = n → d < m → σ.1 = σ0.1 → (∀ j, j < 256 → σ.2 94 j = lN (w j)) → TB b w → (∀ g, TS w g = zZ t (10 - t) b g) → ∃ σ' w', f_X10_calm_94 N (nI n) (nI t) x3 x4 x5 m (lN (10 ^ b)) (nI b) σ = f_X10_calm_293 N x3 x4 x5 (lN (10 ^ n)) N 0 0 σ' ∧ σ'.1 = σ0.1 ∧ (∀ j, j < 256 → σ'.2 94 j = lN (w' j)) ∧ (∀ g, TS w' g = zZ t (10 - t) n g) := by
  intro d
  induction d with
  | zero =>
    intro b m σ w h1 h2 h3 h4 h5 h6
    obtain ⟨m, rfl⟩ : ∃ m', m = m' + 1 := ⟨m - 1, by omega⟩
    have e : b = n := by omega
    subst e
    exact ⟨σ, w, by rw [f_X10_calm_94, if_pos (nI_le (Nat.le_refl _) (by omega))], h3, h4, h6⟩
  | succ d ih =>
    intro b m σ w h1 h2 h3 h4 h5 h6
    obtain ⟨m, rfl⟩ : ∃ m', m = m' + 1 := ⟨m - 1, by omega⟩
    have hw : ∀ j, j < 256 → w j < 2 ^ 63 := by
      intro j hj
      have a := h6 (fun _ _ => 1)
      rw [zZ_1 _ _ (by omega)] at a
      have c : w j * 1 ≤ TS w (fun _ _ => 1) := su_ge (f := fun j => w j * 1) 256 j hj
      have e : 10 ^ b ≤ 10 ^ 15 := Nat.pow_le_pow_right (by decide) (by omega)
      have e2 : (10 : Nat) ^ 15 < 2 ^ 63 := by decide
      omega
    rw [f_X10_calm_94, if_neg (nI_ge (show b < n by omega) (by omega)), show lN (10 ^ b) * 10 = lN (10 ^ (b + 1)) from (lN_mul (10 ^ b) 10).trans (by rw [Nat.pow_succ])]
    obtain ⟨σ1, e1, e2, e3, e4⟩ := r_111 N (fun x6 x8 σ => f_X10_calm_94 N (nI n) (nI t) x3 x4 x5 m x6 x8 σ) (nI n) (nI t) x3 x4 x5 (lN (10 ^ (b + 1))) (nI b) σ 256 0 N σ (by omega) (by omega) rfl rfl (fun j hj => by omega)
    rw [nI_0] at e1
    rw [e1]
    obtain ⟨σ2, nx, g1, g2, g3, g4, g5⟩ := r_136 N (fun x6 x8 σ => f_X10_calm_94 N (nI n) (nI t) x3 x4 x5 m x6 x8 σ) (nI n) x3 x4 x5 (nI b) (lN (10 ^ (b + 1))) t b ht (by omega) w hw h5 σ1 (fun j hj => by rw [e3]; exact h4 j hj) 256 0 N σ1 (fun _ => 0) (by omega) (by omega) rfl rfl (fun j hj => e4 j hj) (fun j hj h => absurd h (Nat.lt_irrefl 0)) (fun g => su_zero 256 (fun i hi => Nat.zero_mul _))
    rw [nI_0] at g1
    rw [g1]
    obtain ⟨σ3, k1, k2, k3⟩ := r_253 N (fun x6 x8 σ => f_X10_calm_94 N (nI n) (nI t) x3 x4 x5 m x6 x8 σ) (nI n) (nI t) x3 x4 x5 (lN (10 ^ (b + 1))) b σ2 256 0 N σ2 (by omega) (by omega) rfl rfl (fun j hj => by omega)
    rw [nI_0] at k1
    rw [k1]
    refine ih (b + 1) m σ3 nx (by omega) (by omega) (by rw [k2, g2, e2, h3]) (fun j hj => by rw [k3 j hj, g3 j hj]) g4 (fun g => ?_)
    rw [g5 g, h6]
    rfl
theorem r_293 (N r : Nat) (hr : r ≤ 15) (x4 x5 : Int32) (x6 : Int64) (w : Nat → Nat) (σ : q_S) (hw : ∀ j, j < 256 → σ.2 94 j = lN (w j)) : ∀ (d i m : Nat), i + d = 256 → d < m → f_X10_calm_293 N (nI r) x4 x5 x6 m (lN (su (fun j => w j * (if x4 = 1 then j / 16 else zG r (j / 16) (j % 16))) i)) (nI i) σ = f_X10_calm_363 N x5 x6 (lN (TS w (if x4 = 1 then (fun l _ => l) else zG r))) N (lN (TS w (if x4 = 1 then (fun l _ => l) else zG r))) x6 σ := by
  intro d
  induction d with
  | zero =>
    intro i m h1 h2
    obtain ⟨m, rfl⟩ : ∃ m', m = m' + 1 := ⟨m - 1, by omega⟩
    have e : i = 256 := by omega
    subst e
    rw [f_X10_calm_293, if_pos (show (256 : Int32) ≤ nI 256 by decide)]
    have e : su (fun j => w j * (if x4 = 1 then j / 16 else zG r (j / 16) (j % 16))) 256 = TS w (if x4 = 1 then (fun l _ => l) else zG r) := by
      unfold TS
      apply su_congr
      intro j _
      by_cases hx : x4 = 1
      · rw [if_pos hx, if_pos hx]
      · rw [if_neg hx, if_neg hx]
    rw [e]
  | succ d ih =>
    intro i m h1 h2
    obtain ⟨m, rfl⟩ : ∃ m', m = m' + 1 := ⟨m - 1, by omega⟩
    have hi : i < 256 := by omega
    have d1 : nI i / 16 = nI (i / 16) := pk_div (d := 16) (by omega) (by decide) (by decide)
    rw [f_X10_calm_293, if_neg (show ¬ (256 : Int32) ≤ nI i from nI_ge (b := 256) hi (by decide)), if_pos (nI_in hi (by decide)), nI_clamp (by omega), nI_1, hw i hi, d1, nI_l (show i / 16 < _ by omega), lN_mul, lN_add, lN_add]
    have h := ih (i + 1) m (by omega) (by omega)
    rw [su] at h
    by_cases hx : x4 = 1
    · simp only [hx, if_true] at h ⊢
      rw [Nat.mul_comm (i / 16) (w i)]
      exact h
    · simp only [hx, if_false] at h ⊢
      unfold zG at h
      by_cases hl : i / 16 < r
      · rw [if_pos (nI_lt hl (by omega)), show (0 : Int64) = lN 0 from rfl, lN_add]
        rw [if_pos hl, Nat.mul_zero] at h
        exact h
      · rw [if_neg (nI_nlt (by omega) (by omega)), if_pos (s_ik hi (by decide))]
        rw [if_neg hl, Nat.mul_one] at h
        exact h
/-! Euclid -/
theorem e_run (N N' : Nat) (x5 : Int32) (x6 x8 : Int64) (σ : q_S) : ∀ (k a b : Nat), b < 2 ^ k → a < 2 ^ 63 → b < 2 ^ 63 → 0 < a + b → ∃ g, 0 < g ∧ g < 2 ^ 63 ∧ ∀ m m' tn, 2 * k < m → 2 * k < m' → tn + 2 * k < 200 → f_X9_commonDivisor_9 N m (lN a) (lN b) (nI tn) = some (lN g) ∧ f_X10_calm_363 N' x5 x6 x8 m' (lN a) (lN b) σ = if x5 = 0 then some (x8 / lN g, σ) else some (x6 / lN g, σ) := by
  have hz : ∀ a m m' tn : Nat, 0 < a → a < 2 ^ 63 → 0 < m → 0 < m' → tn < 200 → f_X9_commonDivisor_9 N m (lN a) (lN 0) (nI tn) = some (lN a) ∧ f_X10_calm_363 N' x5 x6 x8 m' (lN a) (lN 0) σ = if x5 = 0 then some (x8 / lN a, σ) else some (x6 / lN a, σ) := by
    intro a m m' tn ha ha2 hm hm' ht
    obtain ⟨m, rfl⟩ : ∃ k, m = k + 1 := ⟨m - 1, by omega⟩
    obtain ⟨m', rfl⟩ : ∃ k, m' = k + 1 := ⟨m' - 1, by omega⟩
    have hne : ¬ lN a = 0 := fun q => by
      have := (pk_lEQ ha2 (b := 0) (by decide)).mp q
      omega
    rw [f_X9_commonDivisor_9, if_neg (show ¬ (200 : Int32) ≤ nI tn from nI_ge (b := 200) ht (by decide)), if_pos (by decide), f_X10_calm_363, if_pos (by decide), if_pos hne, if_pos hne]
    exact ⟨rfl, rfl⟩
  have hs : ∀ a b m m' tn : Nat, 0 < b → a < 2 ^ 63 → b < 2 ^ 63 → tn < 200 → f_X9_commonDivisor_9 N (m + 1) (lN a) (lN b) (nI tn) = f_X9_commonDivisor_9 N m (lN b) (lN (a % b)) (nI (tn + 1)) ∧ f_X10_calm_363 N' x5 x6 x8 (m' + 1) (lN a) (lN b) σ = f_X10_calm_363 N' x5 x6 x8 m' (lN b) (lN (a % b)) σ := by
    intro a b m m' tn hb ha hb2 ht
    have hne : ¬ lN b = 0 := fun q => by
      have := (pk_lEQ hb2 (b := 0) (by decide)).mp q
      omega
    have hc : ¬ lg_cmp (lN b) 0 = 0 := by
      rw [lg_cmp_eq]
      exact hne
    rw [f_X9_commonDivisor_9, if_neg (show ¬ (200 : Int32) ≤ nI tn from nI_ge (b := 200) ht (by decide)), if_neg hc, if_pos hne, f_X10_calm_363, if_neg hc, if_pos hne, nI_1, show q_reml (lN a) (lN b) = lN (a % b) from pk_lRem ha hb hb2]
    exact ⟨rfl, rfl⟩
  intro k
  induction k with
  | zero =>
    intro a b h1 h2 h3 h4
    have e : b = 0 := by omega
    subst e
    exact ⟨a, by omega, h2, fun m m' tn a1 a2 a3 => hz a m m' tn (by omega) h2 (by omega) (by omega) (by omega)⟩
  | succ k ih =>
    intro a b h1 h2 h3 h4
    by_cases hb : b = 0
    · subst hb
      exact ⟨a, by omega, h2, fun m m' tn a1 a2 a3 => hz a m m' tn (by omega) h2 (by omega) (by omega) (by omega)⟩
    · have hlt : a % b < b := Nat.mod_lt _ (by omega)
      by_cases hr : a % b = 0
      · refine ⟨b, by omega, h3, fun m m' tn a1 a2 a3 => ?_⟩
        obtain ⟨m, rfl⟩ : ∃ k, m = k + 1 := ⟨m - 1, by omega⟩
        obtain ⟨m', rfl⟩ : ∃ k, m' = k + 1 := ⟨m' - 1, by omega⟩
        obtain ⟨s1, s2⟩ := hs a b m m' tn (by omega) h2 h3 (by omega)
        rw [s1, s2, hr]
        exact hz b m m' (tn + 1) (by omega) h3 (by omega) (by omega) (by omega)
      · have hlt2 : b % (a % b) < a % b := Nat.mod_lt _ (by omega)
        have hsum : b % (a % b) + a % b ≤ b := by
          have e1 := Nat.div_add_mod b (a % b)
          have e2 : 1 ≤ b / (a % b) := (Nat.one_le_div_iff (by omega)).mpr (by omega)
          have e3 : (a % b) * 1 ≤ (a % b) * (b / (a % b)) := Nat.mul_le_mul_left _ e2
          omega
        have hp : 2 ^ (k + 1) = 2 * 2 ^ k := by
          rw [Nat.pow_succ, Nat.mul_comm]
        obtain ⟨g, g1, g2, g3⟩ := ih (a % b) (b % (a % b)) (by omega) (by omega) (by omega) (by omega)
        refine ⟨g, g1, g2, fun m m' tn a1 a2 a3 => ?_⟩
        obtain ⟨m, rfl⟩ : ∃ k, m = k + 1 + 1 := ⟨m - 2, by omega⟩
        obtain ⟨m', rfl⟩ : ∃ k, m' = k + 1 + 1 := ⟨m' - 2, by omega⟩
        obtain ⟨s1, s2⟩ := hs a b (m + 1) (m' + 1) tn (by omega) h2 h3 (by omega)
        obtain ⟨s3, s4⟩ := hs b (a % b) m m' (tn + 1) (by omega) h3 (by omega) (by omega)
        rw [s1, s2, s3, s4]
        exact g3 m m' (tn + 1 + 1) (by omega) (by omega) (by omega)
theorem c_calmRel {σ τ : q_S} (e : τ.1 = σ.1) (h : Rel σ) : Rel τ := Rel_congr (fun p _ _ => by rw [e]) (fun k _ => by rw [e]) h
theorem o_calm (N : Nat) (hN : 1000 < N) (a b c d e : Int32) (σ : q_S) (h : Rel σ) : ∃ r σ1 σ2, f_X9_calm N a b c d e σ = some (r, σ1) ∧ f_X10_calm N a b c d e σ1 = some (r, σ2) ∧ Rel σ2 := by
  unfold f_X9_calm f_X10_calm
  rw [s_wI, s_wI, s_wI, s_wI, s_wI, s_wM, s_wM, s_wM, s_wM, s_wM]
  have hout : ∃ r σ1 σ2, f_X9_calm_55 N a b c d e 0 σ = some (r, σ1) ∧ (some ((-1000000000000000002 : Int64), σ1) : Option (Int64 × q_S)) = some (r, σ2) ∧ Rel σ2 := ⟨-1000000000000000002, σ, σ, by rw [f_X9_calm_55, if_pos rfl], rfl, h⟩
  by_cases ha : 0 ≤ a ∧ a ≤ 15
  · by_cases hb : 0 ≤ b ∧ b ≤ 10
    · by_cases hc : 0 ≤ c ∧ c ≤ 15
      · by_cases hd : 0 ≤ d ∧ d ≤ 1
        · by_cases he : 0 ≤ e ∧ e ≤ 1
          · simp only [if_pos ha, if_pos hb, if_pos hc, if_pos hd, if_pos he, show ¬ ((1 : Int32) = 0) by decide, if_false]
            obtain ⟨n, hn, en⟩ := (s_rng a 15 15 rfl).mp ha
            obtain ⟨t, ht, et⟩ := (s_rng b 10 10 rfl).mp hb
            obtain ⟨r, hr, er⟩ := (s_rng c 15 15 rfl).mp hc
            obtain ⟨y, hy, ey⟩ := (s_rng d 1 1 rfl).mp hd
            subst en
            subst et
            subst er
            have hten := c_ten N n (by omega) n 0 N (by omega) (by omega)
            rw [nI_0] at hten
            have hpw : 10 ^ n ≤ 10 ^ 15 := Nat.pow_le_pow_right (by decide) (by omega)
            have hp0 : 0 < 10 ^ n := Nat.pow_pos (by decide)
            have hp1 : (10 : Nat) ^ 15 < 2 ^ 50 := by decide
            have hp2 : (2 : Nat) ^ 50 < 2 ^ 63 := by decide
            have hp3 : (15 : Nat) * 10 ^ 15 < 2 ^ 63 := by decide
            have key : ∃ U σ1, U < 2 ^ 63 ∧ U = zZ t (10 - t) n (if d = 1 then (fun l _ => l) else zG r) ∧ f_X9_calm_55 N (nI n) (nI t) (nI r) d e 1 σ = f_X9_calm_93 N (nI n) e (lN U) σ1 ∧ σ1.1 = σ.1 := by
              unfold f_X9_calm_55
              rw [if_neg (show ¬ (1 : Int32) = 0 by decide)]
              by_cases hd0 : d = 0
              · obtain ⟨σ1, e1, e2⟩ := c_with N t r n (by omega) (by omega) (by omega) (by omega) σ
                have hle := zG_le t (10 - t) r n (by omega)
                refine ⟨zZ t (10 - t) n (zG r), σ1, by omega, by rw [if_neg (show ¬ d = 1 by rw [hd0]; decide)], ?_, e2⟩
                rw [if_pos hd0, e1]
                rfl
              · have hd1 : d = 1 := by
                  have : y = 1 := by
                    rcases (show y = 0 ∨ y = 1 by omega) with q | q
                    · exact absurd (by rw [ey, q]; rfl) hd0
                    · exact q
                  rw [ey, this]
                  rfl
                obtain ⟨σ1, e1, e2⟩ := c_long N t n (by omega) (by omega) (by omega) σ n 0 N σ (by omega) (by omega) rfl
                have hle := zM_le t (10 - t) n (by omega)
                have hle2 : n * 10 ^ n ≤ 15 * 10 ^ 15 := Nat.mul_le_mul (by omega) hpw
                refine ⟨zZ t (10 - t) n (fun l _ => l), σ1, by omega, by rw [if_pos hd1], ?_, e2⟩
                rw [if_neg hd0, f_X1_longestRows, show f_X1_longestRows_5 N (nI n) (nI t) N 0 1 σ = some (lN (zZ t (10 - t) n (fun l _ => l)), σ1) from e1]
                rfl
            obtain ⟨U, σ1, hU, eU, e55, es1⟩ := key
            obtain ⟨σ2, a1, a2, a3⟩ := r_60 N (nI n) (nI t) (nI r) d e 1 σ1 256 0 N σ1 (by omega) (by omega) rfl (fun j hj => by omega)
            obtain ⟨σ3, w, b1, b2, b3, b4⟩ := r_94 N hN (nI r) d e t n (by omega) (by omega) σ2 n 0 N σ2 (fun j => if j = 0 then 1 else 0) (by omega) (by omega) rfl a3 (fun j hj hp => by
              by_cases hj0 : j = 0
              · subst hj0
                exact ⟨Nat.le_refl _, Nat.le_refl _⟩
              · have hp2 : 0 < (if j = 0 then 1 else 0) := hp
                rw [if_neg hj0] at hp2
                exact absurd hp2 (Nat.lt_irrefl 0)) (fun g => by
              show su (fun j => (if j = 0 then 1 else 0) * g (j / 16) (j % 16)) 256 = g 0 0
              apply su_one (g 0 0) 256 0 (by decide)
              · show 1 * g 0 0 = g 0 0
                rw [Nat.one_mul]
              · intro i hi hne
                show (if i = 0 then 1 else 0) * g (i / 16) (i % 16) = 0
                rw [if_neg hne, Nat.zero_mul])
            have c1 := r_293 N r (by omega) d e (lN (10 ^ n)) w σ3 b3 256 0 N (by omega) (by omega)
            rw [b4, ← eU] at c1
            obtain ⟨g, g1, g2, g3⟩ := e_run N N e (lN (10 ^ n)) (lN U) σ3 50 U (10 ^ n) (by omega) (by omega) (by omega) (by omega)
            obtain ⟨q1, q2⟩ := g3 N N 0 (by omega) (by omega) (by omega)
            rw [nI_0] at a1 b1 c1 q1
            have hgne : ¬ lN g = 0 := fun q => by
              have := (pk_lEQ g2 (b := 0) (by decide)).mp q
              omega
            have hg1 : (0 : Int32) ≤ lg_cmp (lN g) 1 := by
              rw [lg_cmp_ge, show (1 : Int64) = lN 1 from rfl, pk_lLE (by decide) g2]
              exact g1
            refine ⟨if e = 0 then lN U / lN g else lN (10 ^ n) / lN g, σ1, σ3, ?_, ?_, c_calmRel (by rw [b2, a2, es1]) h⟩
            · rw [e55, f_X9_calm_93, f_X1_tenTo, show (1 : Int64) = lN (10 ^ 0) from rfl, hten]
              simp only [Option.bind_some]
              rw [f_X9_commonDivisor, q1]
              simp only [Option.bind_some]
              rw [show lN (10 ^ 0) = (1 : Int64) from rfl, if_pos hg1, if_pos hgne, if_pos hgne]
              by_cases he0 : e = 0
              · rw [if_pos he0, if_pos he0]
              · rw [if_neg he0, if_neg he0]
            · rw [a1, show (1 : Int64) = lN (10 ^ 0) from rfl, b1, show (0 : Int64) = lN (su (fun j => w j * (if d = 1 then j / 16 else zG r (j / 16) (j % 16))) 0) from rfl, c1, q2]
              by_cases he0 : e = 0
              · rw [if_pos he0, if_pos he0]
              · rw [if_neg he0, if_neg he0]
          · simp only [if_pos ha, if_pos hb, if_pos hc, if_pos hd, if_neg he, show ¬ ((1 : Int32) = 0) by decide, if_false, if_true]
            exact hout
        · simp only [if_pos ha, if_pos hb, if_pos hc, if_neg hd, show ¬ ((1 : Int32) = 0) by decide, if_false, if_true]
          exact hout
      · simp only [if_pos ha, if_pos hb, if_neg hc, show ¬ ((1 : Int32) = 0) by decide, if_false, if_true]
        exact hout
    · simp only [if_pos ha, if_neg hb, show ¬ ((1 : Int32) = 0) by decide, if_false, if_true]
      exact hout
  · simp only [if_neg ha, if_true]
    exact hout
