/-! order: the class's search -/
theorem mb_bit : ∀ (a0 a1 a2 a3 a4 a5 : Bool) (j : Fin 6), decide ((((rT (bz a0) (bz a1) (bz a2) (bz a3) (bz a4) (bz a5)) >>> (nI j.val &&& 31)) &&& 1) = 1) = [a0, a1, a2, a3, a4, a5].getD j.val false := by decide +kernel
theorem mb_del : ∀ (a0 a1 a2 a3 a4 a5 : Bool) (j : Fin 6), (rT (bz a0) (bz a1) (bz a2) (bz a3) (bz a4) (bz a5)) &&& (((1 : Int32) <<< (nI j.val &&& 31)) ^^^ (-1)) = rT (bz (a0 && !(0 == j.val))) (bz (a1 && !(1 == j.val))) (bz (a2 && !(2 == j.val))) (bz (a3 && !(3 == j.val))) (bz (a4 && !(4 == j.val))) (bz (a5 && !(5 == j.val))) := by decide +kernel
theorem mb_zero : ∀ (a0 a1 a2 a3 a4 a5 : Bool), decide (rT (bz a0) (bz a1) (bz a2) (bz a3) (bz a4) (bz a5) = 0) = !(a0 || a1 || a2 || a3 || a4 || a5) := by decide +kernel
def mk (S : Nat → Bool) : Int32 := rT (bz (S 0)) (bz (S 1)) (bz (S 2)) (bz (S 3)) (bz (S 4)) (bz (S 5))
def cnt (S : Nat → Bool) : Nat := (S 0).toNat + (S 1).toNat + (S 2).toNat + (S 3).toNat + (S 4).toNat + (S 5).toNat
theorem mk_bit (S : Nat → Bool) (j : Nat) (hj : j < 6) : (((mk S) >>> (nI j &&& 31)) &&& 1 = 1) ↔ S j = true := by
  have h := mb_bit (S 0) (S 1) (S 2) (S 3) (S 4) (S 5) ⟨j, hj⟩
  unfold mk
  rw [← decide_eq_true_iff (p := (rT (bz (S 0)) (bz (S 1)) (bz (S 2)) (bz (S 3)) (bz (S 4)) (bz (S 5)) >>> (nI j &&& 31)) &&& 1 = 1), h]
  rcases s_lt6 hj with rfl | rfl | rfl | rfl | rfl | rfl <;> rfl
theorem mk_del (S : Nat → Bool) (j : Nat) (hj : j < 6) : (mk S) &&& (((1 : Int32) <<< (nI j &&& 31)) ^^^ (-1)) = mk (fun i => S i && !(i == j)) := mb_del (S 0) (S 1) (S 2) (S 3) (S 4) (S 5) ⟨j, hj⟩
theorem mk_zero (S : Nat → Bool) : mk S = 0 ↔ cnt S = 0 := by
  have h := mb_zero (S 0) (S 1) (S 2) (S 3) (S 4) (S 5)
  unfold mk cnt
  rw [← decide_eq_true_iff (p := rT (bz (S 0)) (bz (S 1)) (bz (S 2)) (bz (S 3)) (bz (S 4)) (bz (S 5)) = 0), h]
  cases S 0 <;> cases S 1 <;> cases S 2 <;> cases S 3 <;> cases S 4 <;> cases S 5 <;> decide
theorem cnt_del (S : Nat → Bool) (j : Nat) (hj : j < 6) (hs : S j = true) : cnt (fun i => S i && !(i == j)) + 1 = cnt S := by
  unfold cnt
  rcases s_lt6 hj with rfl | rfl | rfl | rfl | rfl | rfl <;> (simp only [hs]; simp <;> omega)
/-- the search's store: the rows stay, the least wait and its order change -/
def SO (c l : Nat → Nat) (σ : q_S) (B : Nat × Nat) : Prop := (∀ j, j < 6 → σ.1 78 j = nI (c j) ∧ σ.1 79 j = nI (l j)) ∧ σ.1 77 3 = nI B.1 ∧ σ.1 77 4 = nI B.2 ∧ B.1 ≤ 1000000
theorem s_mx (a b : Nat) (ha : a < 1000) (hb : b < 1000) : f_J9_max_7cf53 (nI a) (nI b) = nI (max a b) := by
  unfold f_J9_max_7cf53
  by_cases h : a < b
  · rw [if_pos ((nI_lts ha hb).mpr h), Nat.max_eq_right (by omega)]
  · rw [if_neg (fun e => h ((nI_lts ha hb).mp e)), Nat.max_eq_left (by omega)]
theorem s_letC (n : Nat) (c l : Nat → Nat) (hcl : ∀ j, c j < 10 ∧ l j < 10) : ∀ (k m : Nat) (S : Nat → Bool) (f w o : Nat) (σ : q_S) (B : Nat × Nat), k < m → cnt S = k → f + 20 * k ≤ 200 → w + 200 * k ≤ 2000 → SO c l σ B → ∃ σ', f_X0_letThrough (n + 100) m (mk S) (nI f) (nI w) (nI o) σ = some σ' ∧ SO c l σ' (ordS c l k S f w o B) ∧ FO σ σ' := by
  intro k
  induction k with
  | zero =>
    intro m S f w o σ B hm hS hf hw h
    obtain ⟨m, rfl⟩ : ∃ q, m = q + 1 := ⟨m - 1, by omega⟩
    rw [f_X0_letThrough, h.2.1]
    unfold ordS
    by_cases hlt : w < B.1
    · rw [if_pos (show nI w < nI B.1 from by rw [Int32.lt_iff_toInt_lt, nI_toInt (by omega), nI_toInt (by have := h.2.2.2; omega)]; omega), if_pos ((mk_zero S).mpr hS), if_pos hlt]
      refine ⟨_, rfl, ⟨fun j hj => ?_, rfl, rfl, by have := h.2.2.2; omega⟩, ⟨fun p hp => by rw [s_wn _ _ _ _ (by omega), s_wn _ _ _ _ (by omega)], rfl⟩⟩
      rw [s_wn _ _ _ _ (by decide), s_wn _ _ _ _ (by decide), s_wn _ _ _ _ (by decide), s_wn _ _ _ _ (by decide)]
      exact h.1 j hj
    · rw [if_neg (show ¬ nI w < nI B.1 from by rw [Int32.lt_iff_toInt_lt, nI_toInt (by omega), nI_toInt (by have := h.2.2.2; omega)]; omega), if_neg hlt]
      exact ⟨σ, rfl, h, FO_rf σ⟩
  | succ k ih =>
    intro m S f w o σ B hm hS hf hw h
    obtain ⟨m, rfl⟩ : ∃ q, m = q + 1 := ⟨m - 1, by omega⟩
    rw [f_X0_letThrough, h.2.1]
    by_cases hlt : w < B.1
    · have hz : ¬ mk S = 0 := fun e => by
        have := (mk_zero S).mp e
        omega
      rw [if_pos (show nI w < nI B.1 from by rw [Int32.lt_iff_toInt_lt, nI_toInt (by omega), nI_toInt (by have := h.2.2.2; omega)]; omega), if_neg hz]
      -- the loop over those who come
      have loop : ∀ (d j q : Nat) (s : q_S) (B : Nat × Nat), j + d = 6 → d < q → SO c l s B → ∃ σ', f_X0_letThrough_28 (n + 100) (fun a0 a1 a2 a3 σ => f_X0_letThrough (n + 100) m a0 a1 a2 a3 σ) (mk S) (nI f) (nI w) (nI o) q (nI j) s = some σ' ∧ SO c l σ' (((List.range 6).drop j).foldl (fun B j => if S j then ordS c l k (fun i => S i && !(i == j)) (max f (c j) + l j) (w + (max f (c j) - c j)) (o * 10 + j) B else B) B) ∧ FO s σ' := by
        intro d
        induction d with
        | zero =>
          intro j q s B hj hq hs
          obtain ⟨q, rfl⟩ : ∃ t, q = t + 1 := ⟨q - 1, by omega⟩
          have e : j = 6 := by omega
          subst e
          rw [f_X0_letThrough_28, if_pos (show (6 : Int32) ≤ nI 6 by decide)]
          exact ⟨s, rfl, hs, FO_rf s⟩
        | succ d ihd =>
          intro j q s B hj hq hs
          obtain ⟨q, rfl⟩ : ∃ t, q = t + 1 := ⟨q - 1, by omega⟩
          have hj6 : j < 6 := by omega
          have hdr : (List.range 6).drop j = j :: (List.range 6).drop (j + 1) := by
            rcases s_lt6 hj6 with rfl | rfl | rfl | rfl | rfl | rfl <;> rfl
          rw [hdr, List.foldl_cons, f_X0_letThrough_28, if_neg (show ¬ (6 : Int32) ≤ nI j from nI_ge (b := 6) hj6 (by decide)), nI_1]
          by_cases hsj : S j = true
          · have hcj := hcl j
            have hmx : max f (c j) ≤ f + 10 := by omega
            rw [if_pos ((mk_bit S j hj6).mpr hsj), if_pos (nI_in hj6 (by decide)), nI_clamp (by omega), (hs.1 j hj6).1, (hs.1 j hj6).2, s_mx f (c j) (by omega) (by omega), nI_add, nI_add, pk_sub (by omega), show (nI o) * 10 + nI j = nI (o * 10 + j) from by rw [show (10 : Int32) = nI 10 from rfl, pk_mul, nI_add], mk_del S j hj6, if_pos hsj]
            obtain ⟨s1, e1, e2, e3⟩ := ih m (fun i => S i && !(i == j)) (max f (c j) + l j) (w + max f (c j) - c j) (o * 10 + j) s B (by omega) (by have := cnt_del S j hj6 hsj; omega) (by omega) (by omega) hs
            simp only [e1, Option.bind_some]
            rw [show w + max f (c j) - c j = w + (max f (c j) - c j) by omega] at e2
            obtain ⟨s2, g1, g2, g3⟩ := ihd (j + 1) q s1 _ (by omega) (by omega) e2
            exact ⟨s2, g1, g2, FO_tr e3 g3⟩
          · rw [if_neg (fun e => hsj ((mk_bit S j hj6).mp e)), if_neg hsj]
            exact ihd (j + 1) q s B (by omega) (by omega) hs
      obtain ⟨σ', e1, e2, e3⟩ := loop 6 0 (n + 100) σ B rfl (by omega) h
      refine ⟨σ', e1, ?_, e3⟩
      rw [ordS]
      exact e2
    · rw [if_neg (show ¬ nI w < nI B.1 from by rw [Int32.lt_iff_toInt_lt, nI_toInt (by omega), nI_toInt (by have := h.2.2.2; omega)]; omega), ordS_prune c l _ _ _ _ _ _ (by omega)]
      exact ⟨σ, rfl, h, FO_rf σ⟩
