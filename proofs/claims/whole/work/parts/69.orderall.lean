theorem s_76 (n : Nat) (x1 x2 x3 : Int32) (q : Nat) (hq : q ≤ 6) : ∀ (d i m : Nat), i + d = q → d < m → f_X10_order_76 (n + 100) x1 x2 x3 (nI q) m (nI (6 ^ i)) (nI i) = f_X10_order_106 (n + 100) x1 x2 x3 (nI q) (nI (6 ^ q)) (n + 100) 1000000 0 0 := by
  intro d
  induction d with
  | zero =>
    intro i m h1 h2
    obtain ⟨m, rfl⟩ : ∃ t, m = t + 1 := ⟨m - 1, by omega⟩
    have e : i = q := by omega
    subst e
    rw [f_X10_order_76, if_pos (nI_le (Nat.le_refl _) (by omega))]
  | succ d ih =>
    intro i m h1 h2
    obtain ⟨m, rfl⟩ : ∃ t, m = t + 1 := ⟨m - 1, by omega⟩
    rw [f_X10_order_76, if_neg (nI_ge (show i < q by omega) (by omega)), show nI (6 ^ i) * 6 = nI (6 ^ (i + 1)) from by rw [show (6 : Int32) = nI 6 from rfl, pk_mul, Nat.pow_succ], nI_1]
    exact ih (i + 1) m (by omega) (by omega)
theorem s_38 (n a b : Nat) (hb : b < 1000000) (x3 : Int32) (m i t : Nat) (hi : i < 6) : f_X10_order_38 (n + 100) (nI a) (nI b) x3 (m + 1) (nI t) (nI i) = f_X10_order_38 (n + 100) (nI a) (nI b) x3 m (nI (t + (decide (0 < dg b i)).toNat)) (nI (i + 1)) := by
  have hd := dg_lt b i
  rw [f_X10_order_38, if_neg (show ¬ (6 : Int32) ≤ nI i from nI_ge (b := 6) hi (by decide)), s_digit n b i hb hi]
  simp only [Option.bind_some, nI_1, Int32.add_zero]
  by_cases h : 0 < dg b i
  · rw [if_neg (show ¬ nI (dg b i) ≤ 0 from nI_ge (a := 0) h (by omega)), decide_eq_true h]
    rfl
  · rw [if_pos (show nI (dg b i) ≤ 0 by rw [show dg b i = 0 by omega]; decide), decide_eq_false h]
    rfl
theorem nI_any (v : Int32) : ∃ x, v = nI x := ⟨v.toBitVec.toNat, Int32.toBitVec_inj.mp (by show v.toBitVec = BitVec.ofNat 32 v.toBitVec.toNat; simp)⟩
theorem cnt_le (S : Nat → Bool) : cnt S ≤ 6 := by
  unfold cnt
  cases S 0 <;> cases S 1 <;> cases S 2 <;> cases S 3 <;> cases S 4 <;> cases S 5 <;> decide
theorem o_order (n : Nat) (hn : 50000 ≤ n) (x y z : Int32) (σ : q_S) (h : Rel σ) : ∃ r σ1, f_X9_order (n + 100) x y z σ = some (r, σ1) ∧ f_X10_order (n + 100) x y z = some r ∧ Rel σ1 := by
  unfold f_X9_order f_X10_order
  simp only [s_wI, s_wM]
  by_cases hx : 0 ≤ x ∧ x ≤ 999999
  · by_cases hy : 0 ≤ y ∧ y ≤ 999999
    · by_cases hz : 0 ≤ z ∧ z ≤ 1
      · simp only [if_pos hx, if_pos hy, if_pos hz, show ¬ ((1 : Int32) = 0) by decide, if_false]
        obtain ⟨a, ha, rfl⟩ := (s_rng x 999999 999999 rfl).mp hx
        obtain ⟨b, hb, rfl⟩ := (s_rng y 999999 999999 rfl).mp hy
        obtain ⟨t, t1, ⟨t2, t3⟩, t4, t5⟩ := s_settle n a b (by omega) (by omega) σ
        have hmk : t.1 77 2 = mk (fun j => decide (0 < dg b j)) := by
          have e : ∀ k, bz (decide (0 < dg b k)) = 0 ↔ nI (dg b k) = 0 := fun k => by
            have hd := dg_lt b k
            by_cases h : 0 < dg b k
            · rw [decide_eq_true h]
              exact ⟨fun q => absurd q (by decide), fun q => absurd ((nI_e (b := 0) (by omega) (by decide)).mp q) (by omega)⟩
            · rw [decide_eq_false h, show dg b k = 0 by omega]
              exact ⟨fun _ => rfl, fun _ => rfl⟩
          rw [t3]
          unfold rT6 mk rT
          simp only [e]
        have hcl : ∀ j, dg a j < 10 ∧ dg b j < 10 := fun j => ⟨dg_lt a j, dg_lt b j⟩
        have hcn := cnt_le (fun j => decide (0 < dg b j))
        obtain ⟨v, hv⟩ := nI_any (t.1 77 4)
        obtain ⟨s, s1, s2, s3⟩ := s_letC n (dg a) (dg b) hcl (cnt (fun j => decide (0 < dg b j))) 8 (fun j => decide (0 < dg b j)) 0 0 0 t (1000000, v) (by omega) rfl (by omega) (by omega) ⟨t2, t4, hv, Nat.le_refl _⟩
        rw [ordS_ind (dg a) (dg b) hcl 1000000 v 0 _ _ 0 0 0 rfl (by omega) (by omega), ← run_ordS] at s2
        have hM : f_X10_order_38 (n + 100) (nI a) (nI b) z (n + 100) 0 0 = some (if z = 0 then s.1 77 3 else s.1 77 4) := by
          rw [show f_X10_order_38 (n + 100) (nI a) (nI b) z (n + 100) 0 0 = f_X10_order_38 (n + 100) (nI a) (nI b) z (n + 99 + 1) (nI 0) (nI 0) from rfl, s_38 n a b (by omega) z _ 0 0 (by decide), show n + 99 = n + 98 + 1 from rfl, s_38 n a b (by omega) z _ 1 _ (by decide), show n + 98 = n + 97 + 1 from rfl, s_38 n a b (by omega) z _ 2 _ (by decide), show n + 97 = n + 96 + 1 from rfl, s_38 n a b (by omega) z _ 3 _ (by decide), show n + 96 = n + 95 + 1 from rfl, s_38 n a b (by omega) z _ 4 _ (by decide), show n + 95 = n + 94 + 1 from rfl, s_38 n a b (by omega) z _ 5 _ (by decide), show n + 94 = n + 93 + 1 from rfl, f_X10_order_38, if_pos (show (6 : Int32) ≤ nI (5 + 1) by decide), Nat.zero_add]
          have e76 := s_76 n (nI a) (nI b) z (cnt (fun j => decide (0 < dg b j))) hcn (cnt (fun j => decide (0 < dg b j))) 0 (n + 100) (by omega) (by omega)
          have h6 : 6 ^ (cnt (fun j => decide (0 < dg b j))) ≤ 6 ^ 6 := Nat.pow_le_pow_right (by decide) hcn
          have h66 : (6 : Nat) ^ 6 = 46656 := by decide
          refine Eq.trans e76 ?_
          rw [s2.2.1, s2.2.2.1]
          exact s_106 n a b (by omega) (by omega) _ hcn z _ 0 (n + 100) (1000000, 0) (by omega) (by omega) (Nat.le_refl _)
        refine ⟨if z = 0 then s.1 77 3 else s.1 77 4, s, ?_, hM, Rel_FO h (FO_tr t5 s3)⟩
        rw [t1, hmk, show f_X0_letThrough (n + 100) 8 (mk (fun j => decide (0 < dg b j))) 0 0 0 t = some s from s1]
        simp only [Option.bind_some]
        by_cases z0 : z = 0
        · rw [if_pos z0, if_pos z0]
        · rw [if_neg z0, if_neg z0]
      · simp only [if_pos hx, if_pos hy, if_neg hz, show ¬ ((1 : Int32) = 0) by decide, if_false, if_true]
        exact ⟨_, σ, rfl, rfl, h⟩
    · simp only [if_pos hx, if_neg hy, show ¬ ((1 : Int32) = 0) by decide, if_false, if_true]
      exact ⟨_, σ, rfl, rfl, h⟩
  · simp only [if_neg hx, if_true]
    exact ⟨_, σ, rfl, rfl, h⟩
