/-! fits: the two loops -/
def fcd (k : Nat) : Nat := 1000 * (k / 70) + k % 70
theorem fcd_le {k : Nat} (h : k < 1400) : fcd k < 20000 := by unfold fcd; omega
theorem s_fitk {σ τ : q_S} {q : Nat} (h : SG σ τ q) (n k : Nat) (hk : k < 1400) : ∃ b : Bool, f_X4_isFit (n + 100) (nI k) 14 σ = some (bz b) ∧ f_X10_isFit (n + 100) (nI (fcd k)) τ = some (bz b) := by
  have e := s_fit h n (k / 70) (k % 70 / 10) (k % 70 % 10) (by omega) (by omega) (by omega)
  rw [show 70 * (k / 70) + 10 * (k % 70 / 10) + k % 70 % 10 = k by omega, show 1000 * (k / 70) + 10 * (k % 70 / 10) + k % 70 % 10 = fcd k by unfold fcd; omega] at e
  exact e
theorem s_skip (n : Nat) (x1 x2 : Int32) (τ : q_S) : ∀ (d x m : Nat), (∀ y, x ≤ y → y < x + d → 7 ≤ y / 10 % 100 ∧ y < 20000) → f_X10_fits_4 (n + 100) x1 τ (m + d) x2 (nI x) = f_X10_fits_4 (n + 100) x1 τ m x2 (nI (x + d)) := by
  intro d
  induction d with
  | zero =>
    intro x m h
    rfl
  | succ d ih =>
    intro x m h
    obtain ⟨h1, h2⟩ := h x (by omega) (by omega)
    rw [show m + (d + 1) = m + d + 1 from rfl, f_X10_fits_4, if_neg (show ¬ (20000 : Int32) ≤ nI x from nI_ge (b := 20000) h2 (by decide)), s_nofit n x h2 h1 τ]
    simp only [Option.bind_some, if_true]
    rw [nI_1, ih (x + 1) m (fun y a b => h y (by omega) (by omega)), show x + 1 + d = x + (d + 1) by omega]
theorem s_adv (n : Nat) (x1 x2 : Int32) (τ : q_S) (k M : Nat) (hk : k < 1400) (hM : 20000 - fcd k - 1 < M) : ∃ M', 20000 - fcd (k + 1) < M' ∧ f_X10_fits_4 (n + 100) x1 τ M x2 (nI (fcd k + 1)) = f_X10_fits_4 (n + 100) x1 τ M' x2 (nI (fcd (k + 1))) := by
  by_cases h : (k + 1) % 70 = 0
  · have e : fcd (k + 1) = fcd k + 1 + 930 := by
      unfold fcd
      omega
    have hc : fcd (k + 1) ≤ 20000 := by
      unfold fcd
      omega
    refine ⟨M - 930, by omega, ?_⟩
    obtain ⟨M', rfl⟩ : ∃ j, M = j + 930 := ⟨M - 930, by omega⟩
    rw [s_skip n x1 x2 τ 930 (fcd k + 1) M' (fun y a b => ?_), e, Nat.add_sub_cancel]
    · have e2 : fcd k = 1000 * (k / 70) + 69 := by
        unfold fcd
        omega
      constructor <;> omega
  · have e : fcd (k + 1) = fcd k + 1 := by
      unfold fcd
      omega
    exact ⟨M, by omega, by rw [e]⟩
theorem s_fitsLoop {σ τ : q_S} {q : Nat} (h : SG σ τ q) (n : Nat) (x1 : Int32) : ∀ (d k m1 m2 y : Nat), k + d = 1400 → d < m1 → 20000 - fcd k < m2 → y ≤ k → ∃ r, (x1 = -1 → f_X4_countFits_4 (n + 100) 14 σ m1 (nI y) (nI k) = some r) ∧ (¬ x1 < 0 → f_X4_fitAt_5 (n + 100) 14 x1 σ m1 (nI y) (nI k) = some r) ∧ (x1 < 0 → ¬ x1 = -1 → r = -6) ∧ f_X10_fits_4 (n + 100) x1 τ m2 (nI y) (nI (fcd k)) = some r := by
  intro d
  induction d with
  | zero =>
    intro k m1 m2 y hk h1 h2 hy
    obtain ⟨m1, rfl⟩ : ∃ j, m1 = j + 1 := ⟨m1 - 1, by omega⟩
    obtain ⟨m2, rfl⟩ : ∃ j, m2 = j + 1 := ⟨m2 - 1, by omega⟩
    have e : k = 1400 := by omega
    subst e
    rw [f_X4_countFits_4, f_X4_fitAt_5, f_X10_fits_4, if_pos (show (1400 : Int32) ≤ nI 1400 by decide), if_pos (show (1400 : Int32) ≤ nI 1400 by decide), if_pos (show (20000 : Int32) ≤ nI (fcd 1400) by decide)]
    by_cases hx : x1 = -1
    · rw [if_pos hx]
      exact ⟨nI y, fun _ => rfl, fun q => absurd (show x1 < 0 by rw [hx]; decide) q, fun _ q => absurd hx q, rfl⟩
    · rw [if_neg hx]
      exact ⟨-6, fun q => absurd q hx, fun _ => rfl, fun _ _ => rfl, rfl⟩
  | succ d ih =>
    intro k m1 m2 y hk h1 h2 hy
    have hk2 : k < 1400 := by omega
    have hcl := fcd_le hk2
    obtain ⟨m1, rfl⟩ : ∃ j, m1 = j + 1 := ⟨m1 - 1, by omega⟩
    obtain ⟨m2, rfl⟩ : ∃ j, m2 = j + 1 := ⟨m2 - 1, by omega⟩
    obtain ⟨b, b1, b2⟩ := s_fitk h n k hk2
    rw [f_X4_countFits_4, f_X4_fitAt_5, f_X10_fits_4, if_neg (show ¬ (1400 : Int32) ≤ nI k from nI_ge (b := 1400) hk2 (by decide)), if_neg (show ¬ (1400 : Int32) ≤ nI k from nI_ge (b := 1400) hk2 (by decide)), if_neg (show ¬ (20000 : Int32) ≤ nI (fcd k) from nI_ge (b := 20000) hcl (by decide)), b1, b2]
    simp only [Option.bind_some]
    rw [nI_1, nI_1, nI_1, Int32.add_zero]
    cases b with
    | false =>
      obtain ⟨M', hM', eM⟩ := s_adv n x1 (nI y) τ k m2 hk2 (by omega)
      obtain ⟨r, r1, r2, r3, r4⟩ := ih (k + 1) m1 M' y (by omega) (by omega) hM' (by omega)
      simp only [show bz false = 0 from rfl, if_true]
      refine ⟨r, r1, fun q => ?_, r3, by rw [eM]; exact r4⟩
      rw [if_neg q]
      exact r2 q
    | true =>
      simp only [show bz true = 1 from rfl, show ¬ ((1 : Int32) = 0) by decide, if_false]
      by_cases hyx : nI y = x1
      · have hx0 : ¬ x1 < 0 := by rw [← hyx]; exact nI_pos (by omega)
        have hx1 : ¬ x1 = -1 := fun e => hx0 (by rw [e]; decide)
        rw [if_neg hx0]
        refine ⟨nI (fcd k), fun q => absurd q hx1, fun _ => ?_, fun q => absurd q hx0, if_pos hyx⟩
        rw [if_pos hyx]
        congr 1
        rw [show (70 : Int32) = nI 70 from rfl, show nI k / nI 70 = nI (k / 70) from pk_div (by omega) (by decide) (by decide), show q_rem (nI k) (nI 70) = nI (k % 70) from pk_rem (by omega) (by decide) (by decide), show (1000 : Int32) * nI (k / 70) = nI (1000 * (k / 70)) from pk_mul 1000 _, nI_add]
        rfl
      · obtain ⟨M', hM', eM⟩ := s_adv n x1 (nI (y + 1)) τ k m2 hk2 (by omega)
        obtain ⟨r, r1, r2, r3, r4⟩ := ih (k + 1) m1 M' (y + 1) (by omega) (by omega) hM' (by omega)
        rw [if_neg hyx, if_neg hyx]
        refine ⟨r, r1, fun q => ?_, r3, by rw [eM]; exact r4⟩
        rw [if_neg q]
        exact r2 q
theorem Rel_SG {σ : q_S} (h : Rel σ) : ∃ q, SG σ σ q := by
  obtain ⟨⟨hA, hG, hWd, hBt, hT, w0, w1, w2, w3, w4, w5, hc, ⟨j, hj, hj2⟩, hp⟩, -⟩ := h
  exact ⟨j, hj, by rw [← hj2]; exact hc, hj2, hp⟩
theorem o_fits (n : Nat) (x : Int32) (σ : q_S) (h : Rel σ) : ∃ r, f_X9_fits (n + 30000) x σ = some r ∧ f_X10_fits (n + 30000) x σ = some r := by
  obtain ⟨q, hq⟩ := Rel_SG h
  obtain ⟨r, r1, r2, r3, r4⟩ := s_fitsLoop hq (n + 29900) x 1400 0 (n + 30000) (n + 30000) 0 (by omega) (by omega) (by omega) (by omega)
  have e0 : ∀ {α : Type} (f : Int32 → α), f (nI 0) = f 0 := fun f => rfl
  refine ⟨r, ?_, r4⟩
  unfold f_X9_fits f_X4_countFits f_X4_fitAt
  by_cases hx : x = -1
  · rw [if_pos hx, show f_X4_countFits_4 (n + 30000) 14 σ (n + 30000) 0 0 = some r from r1 hx]
    rfl
  · rw [if_neg hx]
    by_cases hx0 : x < 0
    · rw [r3 hx0 hx, show f_X4_fitAt_5 (n + 30000) 14 x σ (n + 30000) 0 0 = some (-6) from ?_]
      · rfl
      · rw [show f_X4_fitAt_5 (n + 30000) 14 x σ (n + 30000) 0 0 = f_X4_fitAt_5 (n + 30000) 14 x σ (n + 29999 + 1) 0 0 from rfl, f_X4_fitAt_5, if_neg (by decide), if_pos hx0]
    · rw [show f_X4_fitAt_5 (n + 30000) 14 x σ (n + 30000) 0 0 = some r from r2 hx0]
      rfl
