theorem s_code (n a b : Nat) (ha : a < 1000000) (hb : b < 1000000) (q : Nat) (hq : q ≤ 6) (k106 : Int32 → Int32 → Int32 → Option Int32) (x3 x5 x7 : Int32) (B1 x8 : Nat) (hB : B1 ≤ 1000000) (hx8 : x8 < 46656) : ∀ (k m : Nat) (T : Nat → Bool) (f w o : Nat), k ≤ q → k + 1 < m → f + 20 * k ≤ 200 → w + 200 * k ≤ 2000 →
    f_X10_order_132 (n + 100) k106 (nI a) (nI b) x3 (nI q) x5 (nI B1) x7 (nI x8) m (nI (6 ^ k)) (mk T) (nI f) (nI w) (nI o) (nI (q - k)) = match ev (dg a) (dg b) k (fun j => !(T j) && decide (0 < dg b j)) f w o (x8 % 6 ^ k) with | none => k106 (nI B1) x7 (nI x8 + 1) | some r => if r.1 < B1 then k106 (nI r.1) (nI r.2) (nI x8 + 1) else k106 (nI B1) x7 (nI x8 + 1) := by
  intro k
  induction k with
  | zero =>
    intro m T f w o h1 h2 h3 h4
    obtain ⟨m, rfl⟩ : ∃ t, m = t + 1 := ⟨m - 1, by omega⟩
    rw [f_X10_order_132, if_pos (show nI q ≤ nI (q - 0) from nI_le (Nat.le_refl _) (by omega)), s_287 _ _ _ _ _ _ _ _ _ _ _ _ hB (by omega)]
    rfl
  | succ k ih =>
    intro m T f w o h1 h2 h3 h4
    obtain ⟨m, rfl⟩ : ∃ t, m = t + 1 + 1 := ⟨m - 2, by omega⟩
    have hk : 0 < 6 ^ k := Nat.pow_pos (by decide)
    have hk6 : 6 ^ k ≤ 6 ^ 5 := Nat.pow_le_pow_right (by decide) (by omega)
    have hk7 : 6 ^ (k + 1) = 6 ^ k * 6 := Nat.pow_succ 6 k
    have hk5 : (6 : Nat) ^ 5 = 7776 := by decide
    have d1 : nI (6 ^ (k + 1)) / 6 = nI (6 ^ k) := by
      rw [show (6 : Int32) = nI 6 from rfl, pk_div (by omega) (by decide) (by decide), hk7, Nat.mul_div_cancel _ (by decide)]
    have hj : x8 % 6 ^ (k + 1) / 6 ^ k < 6 := by
      rw [Nat.div_lt_iff_lt_mul hk, Nat.mul_comm, ← hk7]
      exact Nat.mod_lt _ (by omega)
    have d2 : q_rem (nI x8 / nI (6 ^ k)) 6 = nI (x8 % 6 ^ (k + 1) / 6 ^ k) := by
      rw [pk_div (by omega) hk (by omega)]
      refine (pk_rem (d := 6) (Nat.lt_of_le_of_lt (Nat.div_le_self _ _) (by omega)) (by decide) (by decide)).trans ?_
      rw [hk7, Nat.mod_mul_right_div_self]
    have d3 : x8 % 6 ^ (k + 1) % 6 ^ k = x8 % 6 ^ k := Nat.mod_mod_of_dvd _ (by rw [hk7]; exact Nat.dvd_mul_right _ _)
    rw [f_X10_order_132, if_neg (show ¬ nI q ≤ nI (q - (k + 1)) from nI_ge (by omega) (by omega)), if_neg (show ¬ (1000000 : Int32) ≤ nI w from nI_ge (b := 1000000) (by omega) (by decide)), d1, if_pos (show ¬ nI (6 ^ k) = 0 from fun e => absurd ((nI_eq (b := 0) (by omega) (by decide)).mp e) (by omega)), d2]
    rw [ev, d3]
    generalize x8 % 6 ^ (k + 1) / 6 ^ k = j at *
    rw [mk_has T j hj, s_digit n b j hb hj]
    unfold f_X10_order_187 f_X10_order_211 f_X10_order_244
    rw [s_digit n a j ha hj, s_digit n b j hb hj, mk_add T j hj]
    simp only [Option.bind_some]
    have ca := dg_lt a j
    have cb := dg_lt b j
    have inv : ∀ (U f' o' y : Int32), f_X10_order_132 (n + 100) k106 (nI a) (nI b) x3 (nI q) x5 (nI B1) x7 (nI x8) (m + 1) (nI (6 ^ k)) U f' 1000000 o' y = k106 (nI B1) x7 (nI x8 + 1) := by
      intro U f' o' y
      rw [f_X10_order_132, if_pos (show (1000000 : Int32) ≤ 1000000 by decide), show (1000000 : Int32) = nI 1000000 from rfl, s_287 _ _ _ _ _ _ _ _ _ _ _ _ hB (Nat.le_refl _), if_neg (show ¬ 1000000 < B1 by omega), ite_self]
    by_cases hv : (!(T j) && decide (0 < dg b j)) = true
    · have hT : T j = false := by
        rw [Bool.and_eq_true] at hv
        have := hv.1
        revert this
        cases T j <;> simp
      have hl : 0 < dg b j := by
        rw [Bool.and_eq_true] at hv
        exact of_decide_eq_true hv.2
      have hS : (fun i => (!(T i) && decide (0 < dg b i)) && !(i == j)) = (fun i => !((fun i => T i || (i == j)) i) && decide (0 < dg b i)) := by
        funext i
        show ((!(T i) && decide (0 < dg b i)) && !(i == j)) = (!(T i || (i == j)) && decide (0 < dg b i))
        cases T i <;> cases (i == j) <;> cases decide (0 < dg b i) <;> rfl
      have hmx : max f (dg a j) ≤ f + 10 := by omega
      have go := ih (m + 1) (fun i => T i || (i == j)) (max f (dg a j) + dg b j) (w + (max f (dg a j) - dg a j)) (o * 10 + j) (by omega) (by omega) (by omega) (by omega)
      rw [if_pos hv, hS, ← go, hT, if_pos (show bz false = 0 from rfl), if_neg (show ¬ nI (dg b j) ≤ 0 from nI_ge (a := 0) hl (by omega)), show (10 : Int32) * nI o + nI j = nI (o * 10 + j) from by rw [show (10 : Int32) = nI 10 from rfl, pk_mul, nI_add, Nat.mul_comm], show nI (q - (k + 1)) + 1 = nI (q - k) from by rw [nI_1, show q - (k + 1) + 1 = q - k by omega]]
      by_cases hc : dg a j ≤ f
      · rw [if_pos (show nI (dg a j) ≤ nI f from (nI_les (by omega) (by omega)).mpr hc), if_neg (show ¬ (1 : Int32) = 0 by decide), nI_add, nI_add, pk_sub (by omega), Nat.max_eq_left hc, show w + f - dg a j = w + (f - dg a j) by omega]
      · rw [if_neg (show ¬ nI (dg a j) ≤ nI f from fun e => hc ((nI_les (by omega) (by omega)).mp e)), if_neg (show ¬ (1 : Int32) = 0 by decide), nI_add, nI_add, pk_sub (by omega), Nat.max_eq_right (by omega), show w + dg a j - dg a j = w + (dg a j - dg a j) by omega]
    · rw [if_neg hv]
      simp only [if_true, inv, ite_self]
      by_cases hT : bz (T j) = 0
      · have hl : ¬ 0 < dg b j := fun e => hv (by
          have : T j = false := by
            revert hT
            cases T j
            · intro _
              rfl
            · intro e
              exact absurd e (by decide)
          rw [this, decide_eq_true e]
          rfl)
        rw [if_pos hT, if_pos (show nI (dg b j) ≤ 0 by rw [show dg b j = 0 by omega]; decide)]
      · rw [if_neg hT]
