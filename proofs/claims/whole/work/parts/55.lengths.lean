/-! lengths -/
theorem s_divL {a b : Nat} (ha : a < 1000) (hb : 0 < b) (hb2 : b < 1000) : nI a / nI b = nI (a / b) := pk_div (by omega) hb (by omega)
theorem s_remL {a b : Nat} (ha : a < 1000) (hb : 0 < b) (hb2 : b < 1000) : q_rem (nI a) (nI b) = nI (a % b) := pk_rem (by omega) hb (by omega)
theorem nI_e {a b : Nat} (ha : a < 1000) (hb : b < 1000) : nI a = nI b ↔ a = b := nI_eq (by omega) (by omega)
theorem nI_les {a b : Nat} (ha : a < 1000) (hb : b < 1000) : nI a ≤ nI b ↔ a ≤ b := by
  rw [Int32.le_iff_toInt_le, nI_toInt (by omega), nI_toInt (by omega)]
  omega
theorem nI_lts {a b : Nat} (ha : a < 1000) (hb : b < 1000) : nI a < nI b ↔ a < b := by
  rw [Int32.lt_iff_toInt_lt, nI_toInt (by omega), nI_toInt (by omega)]
  omega
/-- the two games, step by step; v is 1 where he who begins plays -/
theorem s_win (N N' : Nat) : ∀ (b a c m m' : Nat) (v : Int32), b ≤ a → a < 200 → c + b ≤ 100 → b < m → b < m' → (v = 0 ∨ v = 1) → ∃ r, (r = 0 ∨ r = 1) ∧ f_X9_canBeginnerWin_10 N m (nI a) (nI b) v (nI c) = some r ∧ f_X10_wins_25 N' m' (nI a) (nI b) v = some r := by
  intro b
  induction b using Nat.strongRecOn with
  | ind b ih =>
    intro a c m m' v hab ha hc hm hm' hv
    obtain ⟨m, rfl⟩ : ∃ j, m = j + 1 := ⟨m - 1, by omega⟩
    obtain ⟨m', rfl⟩ : ∃ j, m' = j + 1 := ⟨m' - 1, by omega⟩
    rw [f_X9_canBeginnerWin_10, f_X10_wins_25]
    rcases Nat.eq_zero_or_pos b with rfl | hb
    · rw [if_pos (show nI 0 ≤ 0 by decide), if_pos (show nI 0 ≤ 0 by decide)]
      by_cases hv0 : v = 0
      · rw [if_pos hv0, ite_self]
        exact ⟨1, Or.inr rfl, rfl, rfl⟩
      · rw [if_neg hv0, ite_self]
        exact ⟨0, Or.inl rfl, rfl, rfl⟩
    · have h100 : ¬ (100 : Int32) ≤ nI c := nI_ge (b := 100) (by omega) (by decide)
      have hb0 : ¬ nI b ≤ 0 := nI_ge (a := 0) (b := b) hb (by omega)
      have hbn : ¬ nI b = 0 := fun e => absurd ((nI_e (b := 0) (by omega) (by omega)).mp e) (by omega)
      rw [if_neg h100, if_neg hb0, if_neg hb0, if_pos hbn, if_pos hbn, s_divL (by omega) hb (by omega), s_remL (by omega) hb (by omega), if_pos hv, nI_1]
      have hd1 : 1 ≤ a / b := (Nat.le_div_iff_mul_le hb).mpr (by omega)
      have hdlt : a / b < 1000 := Nat.lt_of_le_of_lt (Nat.div_le_self a b) (by omega)
      by_cases h2 : 1 < a / b
      · rw [if_neg (show ¬ nI (a / b) ≤ 1 from fun e => absurd ((nI_les (b := 1) hdlt (by decide)).mp e) (by omega)), if_pos (show (1 : Int32) < nI (a / b) from (nI_lts (a := 1) (by decide) hdlt).mpr h2), ite_self]
        exact ⟨v, hv, rfl, rfl⟩
      · have e1 : a / b = 1 := by omega
        have hrem : a % b = a - b := by
          have := Nat.div_add_mod a b
          rw [e1] at this
          omega
        have hlt : a - b < b := by
          have := Nat.mod_lt a hb
          omega
        rw [e1, hrem, if_pos (show nI 1 ≤ 1 by decide), if_neg (show ¬ (1 : Int32) < nI 1 by decide), pk_sub hab]
        by_cases hz : a - b = 0
        · have eab : a = b := by omega
          rw [hz, if_pos (show nI 0 = 0 from rfl), if_pos (show nI a = nI b by rw [eab])]
          exact ⟨v, hv, rfl, rfl⟩
        · rw [if_neg (show ¬ nI (a - b) = 0 from fun e => hz ((nI_e (b := 0) (by omega) (by decide)).mp e)), if_neg (show ¬ nI a = nI b from fun e => hz (by have := (nI_e (by omega) (by omega)).mp e; omega))]
          rcases hv with rfl | rfl
          · rw [if_pos rfl, if_pos rfl]
            exact ih (a - b) hlt b (c + 1) m m' 1 (by omega) (by omega) (by omega) (by omega) (by omega) (Or.inr rfl)
          · rw [if_neg (by decide), if_neg (by decide)]
            exact ih (a - b) hlt b (c + 1) m m' 0 (by omega) (by omega) (by omega) (by omega) (by omega) (Or.inl rfl)
/-- v turned: the answer turned -/
theorem s_winFlip (N : Nat) : ∀ (m : Nat) (x y v r : Int32), (v = 0 ∨ v = 1) → f_X10_wins_25 N m x y v = some r → f_X10_wins_25 N m x y (if v = 0 then 1 else 0) = some (if r = 0 then 1 else 0) := by
  intro m
  induction m with
  | zero =>
    intro x y v r hv h
    cases h
  | succ m ih =>
    intro x y v r hv h
    rw [f_X10_wins_25] at h ⊢
    rcases hv with rfl | rfl
    · simp only [if_true, show ((0 : Int32) = 0 ∨ (0 : Int32) = 1) = True from by simp, show ((1 : Int32) = 0 ∨ (1 : Int32) = 1) = True from by simp, show ¬ ((1 : Int32) = 0) by decide, if_false] at h ⊢
      by_cases h1 : y ≤ 0
      · rw [if_pos h1] at h ⊢
        obtain rfl := Option.some.inj h
        rfl
      · rw [if_neg h1] at h ⊢
        by_cases h2 : ¬ y = 0
        · rw [if_pos h2] at h ⊢
          by_cases h3 : 1 < x / y
          · rw [if_pos h3] at h ⊢
            obtain rfl := Option.some.inj h
            rfl
          · rw [if_neg h3] at h ⊢
            by_cases h4 : x = y
            · rw [if_pos h4] at h ⊢
              obtain rfl := Option.some.inj h
              rfl
            · rw [if_neg h4] at h ⊢
              exact ih _ _ 1 r (Or.inr rfl) h
        · rw [if_neg h2] at h
          cases h
    · simp only [if_true, show ((0 : Int32) = 0 ∨ (0 : Int32) = 1) = True from by simp, show ((1 : Int32) = 0 ∨ (1 : Int32) = 1) = True from by simp, show ¬ ((1 : Int32) = 0) by decide, if_false] at h ⊢
      by_cases h1 : y ≤ 0
      · rw [if_pos h1] at h ⊢
        obtain rfl := Option.some.inj h
        rfl
      · rw [if_neg h1] at h ⊢
        by_cases h2 : ¬ y = 0
        · rw [if_pos h2] at h ⊢
          by_cases h3 : 1 < x / y
          · rw [if_pos h3] at h ⊢
            obtain rfl := Option.some.inj h
            rfl
          · rw [if_neg h3] at h ⊢
            by_cases h4 : x = y
            · rw [if_pos h4] at h ⊢
              obtain rfl := Option.some.inj h
              rfl
            · rw [if_neg h4] at h ⊢
              exact ih _ _ 0 r (Or.inl rfl) h
        · rw [if_neg h2] at h
          cases h
