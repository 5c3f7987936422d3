/-! order: the numbers taken apart -/
theorem s_settle (n a b : Nat) (ha : a < 1000000) (hb : b < 1000000) (σ : q_S) : ∃ σ', f_X0_settle (n + 100) (nI a) (nI b) σ = f_X0_letThrough (n + 100) 8 (σ'.1 77 2) 0 0 0 σ' ∧ DG σ' a b ∧ σ'.1 77 3 = 1000000 ∧ FO σ σ' := by
  obtain ⟨t5, a5, f5, p5, q5, m5⟩ := s_setStep (n + 100) (n + 99) a b 5 (by decide) ha hb (q_w σ 77 2 0)
  obtain ⟨t4, a4, f4, p4, q4, m4⟩ := s_setStep (n + 100) (n + 98) (a / 10) (b / 10) 4 (by decide) (by omega) (by omega) t5
  obtain ⟨t3, a3, f3, p3, q3, m3⟩ := s_setStep (n + 100) (n + 97) (a / 10 / 10) (b / 10 / 10) 3 (by decide) (by omega) (by omega) t4
  obtain ⟨t2, a2, f2, p2, q2, m2⟩ := s_setStep (n + 100) (n + 96) (a / 10 / 10 / 10) (b / 10 / 10 / 10) 2 (by decide) (by omega) (by omega) t3
  obtain ⟨t1, a1, f1, p1, q1, m1⟩ := s_setStep (n + 100) (n + 95) (a / 10 / 10 / 10 / 10) (b / 10 / 10 / 10 / 10) 1 (by decide) (by omega) (by omega) t2
  obtain ⟨t0, a0, f0, p0, q0, m0⟩ := s_setStep (n + 100) (n + 94) (a / 10 / 10 / 10 / 10 / 10) (b / 10 / 10 / 10 / 10 / 10) 0 (by decide) (by omega) (by omega) t1
  have d : ∀ x : Nat, x % 10 = dg x 5 ∧ x / 10 % 10 = dg x 4 ∧ x / 10 / 10 % 10 = dg x 3 ∧ x / 10 / 10 / 10 % 10 = dg x 2 ∧ x / 10 / 10 / 10 / 10 % 10 = dg x 1 ∧ x / 10 / 10 / 10 / 10 / 10 % 10 = dg x 0 := by
    intro x
    unfold dg
    refine ⟨?_, ?_, ?_, ?_, ?_, ?_⟩
    · show x % 10 = x / 1 % 10
      omega
    · show _ = x / 10 % 10
      omega
    · show _ = x / 100 % 10
      omega
    · show _ = x / 1000 % 10
      omega
    · show _ = x / 10000 % 10
      omega
    · show _ = x / 100000 % 10
      omega
  obtain ⟨x5, x4, x3, x2, x1, x0⟩ := d a
  obtain ⟨y5, y4, y3, y2, y1, y0⟩ := d b
  rw [x5] at p5
  rw [x4] at p4
  rw [x3] at p3
  rw [x2] at p2
  rw [x1] at p1
  rw [x0] at p0
  rw [y5] at q5 m5
  rw [y4] at q4 m4
  rw [y3] at q3 m3
  rw [y2] at q2 m2
  rw [y1] at q1 m1
  rw [y0] at q0 m0
  refine ⟨q_w t0 77 3 1000000, ?_, ⟨fun k hk => ?_, ?_⟩, ?_, ?_⟩
  · unfold f_X0_settle
    rw [show f_X0_settle_13 (n + 100) (n + 100) (nI a) (nI b) 5 (q_w σ 77 2 0) = f_X0_settle_13 (n + 100) (n + 99 + 1) (nI a) (nI b) (nI 5) (q_w σ 77 2 0) from rfl, a5, show nI 5 + (-1) = nI 4 from pk_m1 4, show n + 99 = n + 98 + 1 from rfl, a4, show nI 4 + (-1) = nI 3 from pk_m1 3, show n + 98 = n + 97 + 1 from rfl, a3, show nI 3 + (-1) = nI 2 from pk_m1 2, show n + 97 = n + 96 + 1 from rfl, a2, show nI 2 + (-1) = nI 1 from pk_m1 1, show n + 96 = n + 95 + 1 from rfl, a1, show nI 1 + (-1) = nI 0 from pk_m1 0, show n + 95 = n + 94 + 1 from rfl, a0, show n + 94 = n + 93 + 1 from rfl, f_X0_settle_13, if_pos (show nI 0 + (-1) < 0 by decide), s_bs]
  · rw [s_wn _ _ _ _ (by decide), s_wn _ _ _ _ (by decide), p0, p1, p2, p3, p4, p5, q0, q1, q2, q3, q4, q5]
    rcases s_lt6 hk with rfl | rfl | rfl | rfl | rfl | rfl <;> exact ⟨rfl, rfl⟩
  · show t0.1 77 2 = _
    rw [m0, m1, m2, m3, m4, m5, show (q_w σ 77 2 0).1 77 2 = 0 from rfl]
    show _ = rT (nI (dg b 0)) (nI (dg b 1)) (nI (dg b 2)) (nI (dg b 3)) (nI (dg b 4)) (nI (dg b 5))
    unfold rT
    rw [show (1 : Int32) <<< (nI 5 &&& 31) = 32 by decide, show (1 : Int32) <<< (nI 4 &&& 31) = 16 by decide, show (1 : Int32) <<< (nI 3 &&& 31) = 8 by decide, show (1 : Int32) <<< (nI 2 &&& 31) = 4 by decide, show (1 : Int32) <<< (nI 1 &&& 31) = 2 by decide, show (1 : Int32) <<< (nI 0 &&& 31) = 1 by decide]
    ac_rfl
  · rw [s_w1, s_u1]
  · exact FO_tr (FO_tr (FO_tr (FO_tr (FO_tr (FO_tr (FO_tr ⟨fun p hp => s_wn _ _ _ _ (by omega), rfl⟩ f5) f4) f3) f2) f1) f0) ⟨fun p hp => s_wn _ _ _ _ (by omega), rfl⟩
