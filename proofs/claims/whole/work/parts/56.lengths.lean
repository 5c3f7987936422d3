/-! lengths: the times -/
def s_fin (x3 y : Int32) : Option Int32 := if x3 = 1 then some y else if (0 : Int32) ≤ y then some 1 else some 0
/-- where twice the shorter is left, he who is next wins -/
theorem s_len2 (n a b j : Nat) (hb : 0 < b) (ha : a < 100) (hj : (j + 2) * b ≤ a) : f_X10_wins (n + 100) (nI a - nI j * nI b) (nI b) = some 1 := by
  have hjb : j * b ≤ a := by
    have : (j + 2) * b = j * b + 2 * b := Nat.add_mul j 2 b
    omega
  have h2 : 2 * b ≤ a - j * b := by
    have : (j + 2) * b = j * b + 2 * b := Nat.add_mul j 2 b
    omega
  rw [pk_mul, pk_sub hjb]
  have hle : ¬ nI (a - j * b) ≤ nI b := fun e => by
    have := (nI_les (by omega) (by omega)).mp e
    omega
  have hd : 1 < (a - j * b) / b := (Nat.le_div_iff_mul_le hb).mpr (by omega)
  have hdlt : (a - j * b) / b < 1000 := Nat.lt_of_le_of_lt (Nat.div_le_self _ b) (by omega)
  unfold f_X10_wins f_X10_wins_10
  rw [if_neg hle, if_neg hle, show n + 100 = n + 99 + 1 from rfl, f_X10_wins_25, if_neg (show ¬ nI b ≤ 0 from nI_ge (a := 0) hb (by omega)), if_pos (show ¬ nI b = 0 from fun e => absurd ((nI_e (b := 0) (by omega) (by omega)).mp e) (by omega)), s_divL (by omega) hb (by omega), if_pos (show (1 : Int32) < nI ((a - j * b) / b) from (nI_lts (a := 1) (by decide) hdlt).mpr hd), if_pos (Or.inr rfl)]
theorem s_lenA (n a b : Nat) (x3 x6 : Int32) (hb : 0 < b) (ha : a < 100) : ∀ (j m : Nat), (j + 2) * b ≤ a → j < m → f_X10_lengths_76 (n + 100) x3 (nI a) (nI b) m x6 (nI j) = s_fin x3 x6 := by
  intro j
  induction j with
  | zero =>
    intro m hj hm
    obtain ⟨m, rfl⟩ : ∃ k, m = k + 1 := ⟨m - 1, by omega⟩
    rw [f_X10_lengths_76, if_pos (show nI 0 ≤ 0 by decide)]
    rfl
  | succ j ih =>
    intro m hj hm
    obtain ⟨m, rfl⟩ : ∃ k, m = k + 1 := ⟨m - 1, by omega⟩
    have hj2 : (j + 2) * b ≤ a := Nat.le_trans (Nat.mul_le_mul_right b (by omega)) hj
    have hj3 : (j + 1 + 2) * b = (j + 1) * b + 2 * b := Nat.add_mul (j + 1) 2 b
    have hjl : j + 1 < 1000 := by
      have : (j + 1) * 1 ≤ (j + 1) * b := Nat.mul_le_mul_left _ hb
      omega
    have hne : ¬ nI a - nI (j + 1) * nI b = 0 := by
      rw [pk_mul, pk_sub (by omega)]
      intro e
      have := (nI_e (b := 0) (by omega) (by decide)).mp e
      omega
    rw [f_X10_lengths_76, if_neg (show ¬ nI (j + 1) ≤ 0 from nI_ge (a := 0) (by omega) (by omega)), if_neg hne, s_len2 n a b (j + 1) hb ha hj]
    simp only [Option.bind_some]
    rw [if_neg (by decide), pk_m1]
    exact ih m hj2 (by omega)
theorem s_len (n a b : Nat) (ha : a < 100) (hb : b ≤ a) (x3 : Int32) (h3 : x3 = 0 ∨ x3 = 1) : ∃ r, ((f_X9_winningTimes (n + 100) (nI a) (nI b)).bind fun z => if x3 = 0 then (if z ≤ 0 then some 0 else some 1) else (if z ≤ 0 then some (-6) else some z)) = some r ∧ f_X10_lengths_54 (n + 100) x3 (nI a) (nI b) = some r := by
  unfold f_X9_winningTimes f_X10_lengths_54
  rcases Nat.eq_zero_or_pos b with rfl | hb0
  · rw [if_neg (show ¬ (1 : Int32) ≤ nI 0 by decide), if_pos (show nI 0 = 0 from rfl), show n + 100 = n + 99 + 1 from rfl, f_X10_lengths_76, if_pos (show (0 : Int32) ≤ 0 by decide)]
    rcases h3 with rfl | rfl
    · exact ⟨0, rfl, rfl⟩
    · exact ⟨-6, rfl, rfl⟩
  · have hbn : ¬ nI b = 0 := fun e => absurd ((nI_e (b := 0) (by omega) (by omega)).mp e) (by omega)
    have hq1 : 1 ≤ a / b := (Nat.le_div_iff_mul_le hb0).mpr (by omega)
    have hqa : a / b ≤ a := Nat.div_le_self a b
    have hdm : b * (a / b) + a % b = a := Nat.div_add_mod a b
    have hrlt : a % b < b := Nat.mod_lt a hb0
    rw [if_pos (show (1 : Int32) ≤ nI b from (nI_les (a := 1) (by decide) (by omega)).mpr hb0), if_pos hbn, if_neg hbn, if_pos hbn, s_remL (by omega) hb0 (by omega), s_divL (by omega) hb0 (by omega)]
    generalize hq : a / b = q at *
    generalize hrm : a % b = rm at *
    have hbq : b * q = q * b := Nat.mul_comm b q
    -- the class's answer, once its number is known
    have fin : ∀ k, k ≤ a → ∃ r, (if x3 = 0 then (if nI k ≤ 0 then some (0 : Int32) else some 1) else (if nI k ≤ 0 then some (-6) else some (nI k))) = some r ∧ s_fin x3 (if k = 0 then -6 else nI k) = some r := by
      intro k hk
      unfold s_fin
      rcases Nat.eq_zero_or_pos k with rfl | hk0
      · rcases h3 with rfl | rfl
        · exact ⟨0, rfl, rfl⟩
        · exact ⟨-6, rfl, rfl⟩
      · rw [if_neg (show ¬ k = 0 by omega), if_neg (show ¬ nI k ≤ 0 from nI_ge (a := 0) hk0 (by omega)), if_neg (show ¬ nI k ≤ 0 from nI_ge (a := 0) hk0 (by omega)), if_pos (show (0 : Int32) ≤ nI k from (nI_les (a := 0) (by decide) (by omega)).mpr (by omega))]
        rcases h3 with rfl | rfl
        · exact ⟨1, rfl, rfl⟩
        · exact ⟨nI k, rfl, rfl⟩
    -- the loop from q - 1 on
    have hqb : q * b = (q - 1) * b + b := by
      have : q = (q - 1) + 1 := by omega
      calc q * b = ((q - 1) + 1) * b := by rw [← this]
        _ = (q - 1) * b + b := Nat.succ_mul _ _
    have low : ∀ (x6 w : Int32) (m : Nat), q ≤ m → (1 ≤ q - 1 → f_X10_wins (n + 100) (nI (b + rm)) (nI b) = some w) → f_X10_lengths_76 (n + 100) x3 (nI a) (nI b) m x6 (nI (q - 1)) = s_fin x3 (if q - 1 = 0 then x6 else if w = 0 then nI (q - 1) else x6) := by
      intro x6 w m hm hw
      obtain ⟨m, rfl⟩ : ∃ k, m = k + 1 := ⟨m - 1, by omega⟩
      rcases Nat.eq_zero_or_pos (q - 1) with e0 | e0
      · rw [e0, f_X10_lengths_76, if_pos (show nI 0 ≤ 0 by decide), if_pos rfl]
        rfl
      · have er : nI a - nI (q - 1) * nI b = nI (b + rm) := by
          rw [pk_mul, pk_sub (by omega)]
          congr 1
          omega
        rw [f_X10_lengths_76, if_neg (show ¬ nI (q - 1) ≤ 0 from nI_ge (a := 0) e0 (by omega)), er, if_neg (show ¬ nI (b + rm) = 0 from fun e => absurd ((nI_e (b := 0) (by omega) (by decide)).mp e) (by omega)), hw (by omega), if_neg (show ¬ q - 1 = 0 by omega)]
        simp only [Option.bind_some]
        obtain ⟨j, hj⟩ : ∃ j, q - 1 = j + 1 := ⟨q - 2, by omega⟩
        have hA : (j + 2) * b ≤ a := by
          have : q = j + 2 := by omega
          rw [← this]
          omega
        rw [hj, pk_m1]
        by_cases w0 : w = 0
        · rw [if_pos w0, if_pos w0]
          exact s_lenA n a b x3 _ hb0 ha j m hA (by omega)
        · rw [if_neg w0, if_neg w0]
          exact s_lenA n a b x3 _ hb0 ha j m hA (by omega)
    have eq0 : nI a - nI q * nI b = nI rm := by
      rw [pk_mul, pk_sub (by omega)]
      congr 1
      omega
    have nq0 : ¬ nI q ≤ 0 := nI_ge (a := 0) hq1 (by omega)
    obtain ⟨q', hq'⟩ : ∃ j, q = j + 1 := ⟨q - 1, by omega⟩
    have eqm : nI q + (-1) = nI (q - 1) := by
      rw [hq', pk_m1]
      rfl
    have nq : ¬ q = 0 := by omega
    rw [show f_X10_lengths_76 (n + 100) x3 (nI a) (nI b) (n + 100) (-6) (nI q) = f_X10_lengths_76 (n + 100) x3 (nI a) (nI b) (n + 99 + 1) (-6) (nI q) from rfl, f_X10_lengths_76, if_neg nq0, eq0, eqm]
    by_cases hz : rm = 0
    · have hw1 : 1 ≤ q - 1 → f_X10_wins (n + 100) (nI (b + rm)) (nI b) = some 1 := fun _ => by
        rw [show b + rm = b by omega]
        unfold f_X10_wins f_X10_wins_10
        have hle : nI b ≤ nI b := (nI_les (by omega) (by omega)).mpr (Nat.le_refl b)
        rw [if_pos hle, if_pos hle, show n + 100 = n + 99 + 1 from rfl, f_X10_wins_25, if_neg (show ¬ nI b ≤ 0 from nI_ge (a := 0) hb0 (by omega)), if_pos hbn, s_divL (by omega) hb0 (by omega), Nat.div_self hb0, if_neg (show ¬ (1 : Int32) < nI 1 by decide), if_pos rfl, if_pos (Or.inr rfl)]
      rw [if_pos (show nI rm = 0 by rw [hz]; rfl), if_pos (show nI rm = 0 by rw [hz]; rfl), low (nI q) 1 (n + 99) (by omega) hw1]
      obtain ⟨r, r1, r2⟩ := fin q (by omega)
      refine ⟨r, r1, ?_⟩
      rw [if_neg nq] at r2
      rw [if_neg (show ¬ (1 : Int32) = 0 by decide), ite_self]
      exact r2
    · have nrm : ¬ nI rm = 0 := fun e => hz ((nI_e (b := 0) (by omega) (by decide)).mp e)
      obtain ⟨r, r0, r1, r2⟩ := s_win (n + 100) (n + 100) rm b 0 (n + 100) (n + 100) 1 (by omega) (by omega) (by omega) (by omega) (by omega) (Or.inr rfl)
      obtain ⟨r', -, r1', r2'⟩ := s_win (n + 100) (n + 100) rm b 0 (n + 100) (n + 99) 1 (by omega) (by omega) (by omega) (by omega) (by omega) (Or.inr rfl)
      have er : r' = r := by
        rw [r1] at r1'
        exact (Option.some.inj r1').symm
      rw [er] at r2'
      have fl := s_winFlip (n + 100) (n + 99) _ _ 1 r (Or.inr rfl) r2'
      rw [if_neg (show ¬ (1 : Int32) = 0 by decide)] at fl
      have hwq : f_X10_wins (n + 100) (nI rm) (nI b) = some r := by
        unfold f_X10_wins f_X10_wins_10
        have hle : nI rm ≤ nI b := (nI_les (by omega) (by omega)).mpr (by omega)
        rw [if_pos hle, if_pos hle]
        exact r2
      have hw1 : 1 ≤ q - 1 → f_X10_wins (n + 100) (nI (b + rm)) (nI b) = some (if r = 0 then 1 else 0) := fun _ => by
        unfold f_X10_wins f_X10_wins_10
        have hle : ¬ nI (b + rm) ≤ nI b := fun e => absurd ((nI_les (by omega) (by omega)).mp e) (by omega)
        have hd : (b + rm) / b = 1 := by
          rw [Nat.add_div_left _ hb0, Nat.div_eq_of_lt hrlt]
        rw [if_neg hle, if_neg hle, show f_X10_wins_25 (n + 100) (n + 100) (nI (b + rm)) (nI b) 1 = f_X10_wins_25 (n + 100) (n + 99 + 1) (nI (b + rm)) (nI b) 1 from rfl, f_X10_wins_25, if_neg (show ¬ nI b ≤ 0 from nI_ge (a := 0) hb0 (by omega)), if_pos hbn, s_divL (by omega) hb0 (by omega), hd, if_neg (show ¬ (1 : Int32) < nI 1 by decide), if_neg (show ¬ nI (b + rm) = nI b from fun e => absurd ((nI_e (by omega) (by omega)).mp e) (by omega)), if_neg (show ¬ (1 : Int32) = 0 by decide), pk_sub (by omega), show b + rm - b = rm by omega]
        exact fl
      unfold f_X9_canBeginnerWin
      rw [if_neg nrm, if_neg nrm, hwq, show f_X9_canBeginnerWin_10 (n + 100) (n + 100) (nI b) (nI rm) 1 0 = some r from r1]
      simp only [Option.bind_some]
      rcases r0 with rfl | rfl
      · simp only [if_true]
        rw [low (nI q) 1 (n + 99) (by omega) hw1]
        obtain ⟨r, r1, r2⟩ := fin q (by omega)
        refine ⟨r, r1, ?_⟩
        rw [if_neg nq] at r2
        rw [if_neg (show ¬ (1 : Int32) = 0 by decide), ite_self]
        exact r2
      · simp only [show ¬ ((1 : Int32) = 0) by decide, if_false]
        rw [low (-6) 0 (n + 99) (by omega) hw1, if_pos (show (0 : Int32) = 0 from rfl), show nI q - 1 = nI (q - 1) from pk_sub (a := q) (b := 1) hq1]
        exact fin (q - 1) (by omega)
theorem o_lengths (n : Nat) (x y z : Int32) : ∃ r, f_X9_lengths (n + 100) x y z = some r ∧ f_X10_lengths (n + 100) x y z = some r := by
  unfold f_X9_lengths f_X10_lengths
  simp only [s_wI, s_wM]
  by_cases hx : 0 ≤ x ∧ x ≤ 99
  · by_cases hy : 0 ≤ y ∧ y ≤ 99
    · by_cases hz : 0 ≤ z ∧ z ≤ 1
      · simp only [if_pos hx, if_pos hy, if_pos hz, show ¬ ((1 : Int32) = 0) by decide, if_false]
        obtain ⟨a, ha, rfl⟩ := (s_rng x 99 99 rfl).mp hx
        obtain ⟨b, hb, rfl⟩ := (s_rng y 99 99 rfl).mp hy
        have h3 : z = 0 ∨ z = 1 := by
          obtain ⟨k, hk, rfl⟩ := (s_rng z 1 1 rfl).mp hz
          rcases (show k = 0 ∨ k = 1 by omega) with rfl | rfl
          · exact Or.inl rfl
          · exact Or.inr rfl
        unfold f_J9_max_7cf53 f_J9_min_7cf53
        by_cases hab : a ≤ b
        · have l1 : nI a ≤ nI b := (nI_les (by omega) (by omega)).mpr hab
          have l2 : ¬ nI b < nI a := fun e => absurd ((nI_lts (by omega) (by omega)).mp e) (by omega)
          have em : (if nI a < nI b then nI b else nI a) = nI b := by
            by_cases e : nI a < nI b
            · rw [if_pos e]
            · rw [if_neg e]
              have : ¬ a < b := fun q => e ((nI_lts (by omega) (by omega)).mpr q)
              rw [show a = b by omega]
          rw [if_pos l1, if_pos l1, if_neg l2, em]
          exact s_len n b a (by omega) hab z h3
        · have l1 : ¬ nI a ≤ nI b := fun e => hab ((nI_les (by omega) (by omega)).mp e)
          have l2 : nI b < nI a := (nI_lts (by omega) (by omega)).mpr (by omega)
          have l3 : ¬ nI a < nI b := fun e => absurd ((nI_lts (by omega) (by omega)).mp e) (by omega)
          rw [if_neg l1, if_neg l1, if_pos l2, if_neg l3]
          exact s_len n a b (by omega) (by omega) z h3
      · simp only [if_pos hx, if_pos hy, if_neg hz, show ¬ ((1 : Int32) = 0) by decide, if_false, if_true]
        exact ⟨_, rfl, rfl⟩
    · simp only [if_pos hx, if_neg hy, show ¬ ((1 : Int32) = 0) by decide, if_false, if_true]
      exact ⟨_, rfl, rfl⟩
  · simp only [if_neg hx, if_true]
    exact ⟨_, rfl, rfl⟩
