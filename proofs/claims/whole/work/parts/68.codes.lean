theorem s_106 (n a b : Nat) (ha : a < 1000000) (hb : b < 1000000) (q : Nat) (hq : q ≤ 6) (x3 : Int32) : ∀ (d x8 m : Nat) (B : Nat × Nat), x8 + d = 6 ^ q → d < m → B.1 ≤ 1000000 → f_X10_order_106 (n + 100) (nI a) (nI b) x3 (nI q) (nI (6 ^ q)) m (nI B.1) (nI B.2) (nI x8) = some (if x3 = 0 then nI (run (ev (dg a) (dg b) q (fun j => decide (0 < dg b j)) 0 0 0) d x8 B).1 else nI (run (ev (dg a) (dg b) q (fun j => decide (0 < dg b j)) 0 0 0) d x8 B).2) := by
  have h6 : 6 ^ q ≤ 6 ^ 6 := Nat.pow_le_pow_right (by decide) hq
  have h66 : (6 : Nat) ^ 6 = 46656 := by decide
  intro d
  induction d with
  | zero =>
    intro x8 m B h1 h2 h3
    obtain ⟨m, rfl⟩ : ∃ t, m = t + 1 := ⟨m - 1, by omega⟩
    rw [f_X10_order_106, if_pos (show nI (6 ^ q) ≤ nI x8 from nI_le (by omega) (by omega))]
    show _ = some (if x3 = 0 then nI B.1 else nI B.2)
    by_cases h : x3 = 0
    · rw [if_pos h, if_pos h]
    · rw [if_neg h, if_neg h]
  | succ d ih =>
    intro x8 m B h1 h2 h3
    obtain ⟨m, rfl⟩ : ∃ t, m = t + 1 := ⟨m - 1, by omega⟩
    rw [f_X10_order_106, if_neg (show ¬ nI (6 ^ q) ≤ nI x8 from nI_ge (by omega) (by omega))]
    have sc := s_code n a b ha hb q hq (fun x6 x7 x8 => f_X10_order_106 (n + 100) (nI a) (nI b) x3 (nI q) (nI (6 ^ q)) m x6 x7 x8) x3 (nI (6 ^ q)) (nI B.2) B.1 x8 h3 (by omega) q (n + 100) (fun _ => false) 0 0 0 (Nat.le_refl _) (by omega) (by omega) (by omega)
    rw [Nat.sub_self, show mk (fun _ => false) = 0 from by decide, show (fun j => !(false) && decide (0 < dg b j)) = (fun j => decide (0 < dg b j)) from by funext j; exact Bool.true_and _, Nat.mod_eq_of_lt (show x8 < 6 ^ q by omega)] at sc
    refine Eq.trans sc ?_
    show _ = some (if x3 = 0 then nI (run (ev (dg a) (dg b) q (fun j => decide (0 < dg b j)) 0 0 0) d (x8 + 1) (bt B (ev (dg a) (dg b) q (fun j => decide (0 < dg b j)) 0 0 0 x8))).1 else nI (run (ev (dg a) (dg b) q (fun j => decide (0 < dg b j)) 0 0 0) d (x8 + 1) (bt B (ev (dg a) (dg b) q (fun j => decide (0 < dg b j)) 0 0 0 x8))).2)
    cases ev (dg a) (dg b) q (fun j => decide (0 < dg b j)) 0 0 0 x8 with
    | none =>
      simp only [nI_1]
      exact ih (x8 + 1) m B (by omega) (by omega) h3
    | some r =>
      simp only [nI_1]
      by_cases hr : r.1 < B.1
      · rw [if_pos hr, show bt B (some r) = r from if_pos hr]
        exact ih (x8 + 1) m r (by omega) (by omega) (by omega)
      · rw [if_neg hr, show bt B (some r) = B from if_neg hr]
        exact ih (x8 + 1) m B (by omega) (by omega) h3
