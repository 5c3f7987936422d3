/-! order: the digits -/
def dg (a j : Nat) : Nat := a / 10 ^ (5 - j) % 10
theorem dg_lt (a j : Nat) : dg a j < 10 := Nat.mod_lt _ (by decide)
theorem s_dig (N j : Nat) (hj : j < 6) : ∀ (d a m : Nat), j + d < 6 → a < 1000000 → d < m → f_X10_digit_4 N (nI j) m (nI a) (nI (j + d)) = some (nI (a / 10 ^ d % 10)) := by
  intro d
  induction d with
  | zero =>
    intro a m h1 h2 h3
    obtain ⟨m, rfl⟩ : ∃ k, m = k + 1 := ⟨m - 1, by omega⟩
    rw [f_X10_digit_4, if_pos (show nI (j + 0) ≤ nI j from nI_le (Nat.le_refl _) (by omega)), show q_rem (nI a) 10 = nI (a % 10) from pk_rem (d := 10) (by omega) (by decide) (by decide), Nat.pow_zero, Nat.div_one]
  | succ d ih =>
    intro a m h1 h2 h3
    obtain ⟨m, rfl⟩ : ∃ k, m = k + 1 := ⟨m - 1, by omega⟩
    rw [f_X10_digit_4, if_neg (show ¬ nI (j + (d + 1)) ≤ nI j from nI_ge (by omega) (by omega)), show nI a / 10 = nI (a / 10) from pk_div (d := 10) (by omega) (by decide) (by decide), show j + (d + 1) = j + d + 1 from rfl, pk_m1, ih (a / 10) m (by omega) (by omega) (by omega), Nat.div_div_eq_div_mul, Nat.pow_succ, Nat.mul_comm]
theorem s_digit (n a j : Nat) (ha : a < 1000000) (hj : j < 6) : f_X10_digit (n + 100) (nI a) (nI j) = some (nI (dg a j)) := by
  unfold f_X10_digit dg
  have := s_dig (n + 100) j hj (5 - j) a (n + 100) (by omega) ha (by omega)
  rw [show j + (5 - j) = 5 by omega] at this
  exact this
/-- the class's rows: who comes when, how long each takes, who comes at all -/
def DG (σ : q_S) (a b : Nat) : Prop := (∀ k, k < 6 → σ.1 78 k = nI (dg a k) ∧ σ.1 79 k = nI (dg b k)) ∧ σ.1 77 2 = rT6 (fun k => nI (dg b k))
/-- only the queue's places change -/
def FO (σ σ' : q_S) : Prop := (∀ p, p < 77 ∨ 79 < p → σ'.1 p = σ.1 p) ∧ σ'.2 = σ.2
theorem FO_rf (σ : q_S) : FO σ σ := ⟨fun _ _ => rfl, rfl⟩
theorem FO_tr {a b c : q_S} (h1 : FO a b) (h2 : FO b c) : FO a c := ⟨fun p hp => by rw [h2.1 p hp, h1.1 p hp], by rw [h2.2, h1.2]⟩
theorem Rel_FO {σ σ' : q_S} (h : Rel σ) (hf : FO σ σ') : Rel σ' := Rel_congr (fun p hp hn => hf.1 p (by omega)) (fun k hk => by rw [hf.1 84 (by decide)]) h
/-- one digit of both numbers is written down -/
theorem s_setStep (N m a b j : Nat) (hj : j < 6) (ha : a < 1000000) (hb : b < 1000000) (σ : q_S) : ∃ σ', f_X0_settle_13 N (m + 1) (nI a) (nI b) (nI j) σ = f_X0_settle_13 N m (nI (a / 10)) (nI (b / 10)) (nI j + (-1)) σ' ∧ FO σ σ' ∧ (∀ k, σ'.1 78 k = if k = j then nI (a % 10) else σ.1 78 k) ∧ (∀ k, σ'.1 79 k = if k = j then nI (b % 10) else σ.1 79 k) ∧ σ'.1 77 2 = σ.1 77 2 ||| (if nI (b % 10) = 0 then 0 else (1 : Int32) <<< (nI j &&& 31)) := by
  have hlt : b % 10 < 10 := Nat.mod_lt _ (by decide)
  have e79 : (q_w (q_w σ 78 j (nI (a % 10))) 79 j (nI (b % 10))).1 79 j = nI (b % 10) := by rw [s_w1, s_u1]
  have e77 : (q_w (q_w σ 78 j (nI (a % 10))) 79 j (nI (b % 10))).1 77 2 = σ.1 77 2 := by rw [s_wn _ _ _ _ (by decide), s_wn _ _ _ _ (by decide)]
  have fr : ∀ v, FO σ (q_w (q_w (q_w σ 78 j (nI (a % 10))) 79 j (nI (b % 10))) 77 2 v) := fun v => ⟨fun p hp => by rw [s_wn _ _ _ _ (by omega), s_wn _ _ _ _ (by omega), s_wn _ _ _ _ (by omega)], rfl⟩
  have g78 : ∀ v k, (q_w (q_w (q_w σ 78 j (nI (a % 10))) 79 j (nI (b % 10))) 77 2 v).1 78 k = if k = j then nI (a % 10) else σ.1 78 k := fun v k => by
    rw [s_wn _ _ _ _ (by decide), s_wn _ _ _ _ (by decide), s_w1]
    rfl
  have g79 : ∀ v k, (q_w (q_w (q_w σ 78 j (nI (a % 10))) 79 j (nI (b % 10))) 77 2 v).1 79 k = if k = j then nI (b % 10) else σ.1 79 k := fun v k => by
    rw [s_wn _ _ _ _ (by decide), s_w1]
    show (if k = j then _ else (q_w σ 78 j (nI (a % 10))).1 79 k) = _
    rw [s_wn _ _ _ _ (by decide)]
  rw [f_X0_settle_13, if_neg (nI_pos (by omega)), if_pos (nI_in hj (by decide)), nI_clamp (by omega), show q_rem (nI a) 10 = nI (a % 10) from pk_rem (d := 10) (by omega) (by decide) (by decide), show q_rem (nI b) 10 = nI (b % 10) from pk_rem (d := 10) (by omega) (by decide) (by decide), e79, e77]
  unfold f_X0_settle_64
  rw [show nI a / 10 = nI (a / 10) from pk_div (d := 10) (by omega) (by decide) (by decide), show nI b / 10 = nI (b / 10) from pk_div (d := 10) (by omega) (by decide) (by decide)]
  rcases Nat.eq_zero_or_pos (b % 10) with hz | hz
  · rw [if_pos (show nI (b % 10) ≤ 0 by rw [hz]; decide)]
    refine ⟨_, rfl, fr _, g78 _, g79 _, ?_⟩
    rw [s_w1, s_u1, if_pos (show nI (b % 10) = 0 by rw [hz]; rfl)]
  · rw [if_neg (show ¬ nI (b % 10) ≤ 0 from nI_ge (a := 0) hz (by omega))]
    refine ⟨_, rfl, fr _, g78 _, g79 _, ?_⟩
    rw [s_w1, s_u1, if_neg (show ¬ nI (b % 10) = 0 from fun e => absurd ((nI_e (b := 0) (by omega) (by decide)).mp e) (by omega))]
