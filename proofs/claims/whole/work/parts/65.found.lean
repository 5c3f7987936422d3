/-! order: an order is always found, so what stood there before is gone -/
theorem fold_ind {W x y : Nat} (S : Nat → Bool) (g : Nat × Nat → Nat → Nat × Nat) (h1 : ∀ j, S j = true → g (W, x) j = g (W, y) j) (h2 : ∀ j B, ¬ S j = true → g B j = B) : ∀ (xs : List Nat), (∃ j, j ∈ xs ∧ S j = true) → xs.foldl g (W, x) = xs.foldl g (W, y) := by
  intro xs
  induction xs with
  | nil =>
    intro h
    obtain ⟨j, hj, -⟩ := h
    cases hj
  | cons a xs ih =>
    intro h
    rw [List.foldl_cons, List.foldl_cons]
    by_cases hs : S a = true
    · rw [h1 a hs]
    · rw [h2 a _ hs, h2 a _ hs]
      obtain ⟨j, hj, hsj⟩ := h
      rcases List.mem_cons.mp hj with e | e
      · rw [e] at hsj
        exact absurd hsj hs
      · exact ih ⟨j, e, hsj⟩
theorem cnt_pos (S : Nat → Bool) (h : 0 < cnt S) : ∃ j, j ∈ List.range 6 ∧ S j = true := by
  unfold cnt at h
  by_cases h0 : S 0 = true
  · exact ⟨0, by decide, h0⟩
  by_cases h1 : S 1 = true
  · exact ⟨1, by decide, h1⟩
  by_cases h2 : S 2 = true
  · exact ⟨2, by decide, h2⟩
  by_cases h3 : S 3 = true
  · exact ⟨3, by decide, h3⟩
  by_cases h4 : S 4 = true
  · exact ⟨4, by decide, h4⟩
  by_cases h5 : S 5 = true
  · exact ⟨5, by decide, h5⟩
  rw [Bool.not_eq_true] at h0 h1 h2 h3 h4 h5
  rw [h0, h1, h2, h3, h4, h5] at h
  exact absurd h (by decide)
theorem fold_cong {α β : Type} (g g' : α → β → α) : ∀ (xs : List β) (B : α), (∀ B x, x ∈ xs → g B x = g' B x) → xs.foldl g B = xs.foldl g' B := by
  intro xs
  induction xs with
  | nil =>
    intro B h
    rfl
  | cons a xs ih =>
    intro B h
    rw [List.foldl_cons, List.foldl_cons, h B a (List.mem_cons_self ..)]
    exact ih _ (fun B x hx => h B x (List.mem_cons_of_mem _ hx))
theorem ordS_ind (c l : Nat → Nat) (hcl : ∀ j, c j < 10 ∧ l j < 10) (W x y : Nat) : ∀ (k : Nat) (S : Nat → Bool) (f w o : Nat), cnt S = k → f + 20 * k ≤ 200 → w + 200 * k < W → ordS c l k S f w o (W, x) = ordS c l k S f w o (W, y) := by
  intro k
  induction k with
  | zero =>
    intro S f w o h1 h2 h3
    show (if w < W then (w, o) else (W, x)) = (if w < W then (w, o) else (W, y))
    rw [if_pos (by omega), if_pos (by omega)]
  | succ k ih =>
    intro S f w o h1 h2 h3
    rw [ordS, ordS]
    have key : ∀ T : Nat → Bool, (∀ j, T j = (decide (j < 6) && S j)) → (List.range 6).foldl (fun B j => if T j then ordS c l k (fun i => S i && !(i == j)) (max f (c j) + l j) (w + (max f (c j) - c j)) (o * 10 + j) B else B) (W, x) = (List.range 6).foldl (fun B j => if T j then ordS c l k (fun i => S i && !(i == j)) (max f (c j) + l j) (w + (max f (c j) - c j)) (o * 10 + j) B else B) (W, y) := by
      intro T hT
      refine fold_ind T _ (fun j hj => ?_) (fun j B hj => if_neg hj) _ ?_
      · rw [hT, Bool.and_eq_true, decide_eq_true_iff] at hj
        have hj' : T j = true := by
          rw [hT, Bool.and_eq_true, decide_eq_true_iff]
          exact hj
        have hcj := hcl j
        have hmx : max f (c j) ≤ f + 10 := by omega
        simp only [hj', if_true]
        exact ih _ _ _ _ (by have := cnt_del S j hj.1 hj.2; omega) (by omega) (by omega)
      · obtain ⟨j, hj1, hj2⟩ := cnt_pos S (by omega)
        refine ⟨j, hj1, ?_⟩
        rw [hT, Bool.and_eq_true, decide_eq_true_iff]
        exact ⟨List.mem_range.mp hj1, hj2⟩
    have kk := key (fun j => decide (j < 6) && S j) (fun j => rfl)
    have cg : ∀ B, (List.range 6).foldl (fun B j => if S j then ordS c l k (fun i => S i && !(i == j)) (max f (c j) + l j) (w + (max f (c j) - c j)) (o * 10 + j) B else B) B = (List.range 6).foldl (fun B j => if (decide (j < 6) && S j) then ordS c l k (fun i => S i && !(i == j)) (max f (c j) + l j) (w + (max f (c j) - c j)) (o * 10 + j) B else B) B := by
      intro B
      refine fold_cong _ _ _ _ (fun B j hj => ?_)
      simp only [List.mem_range.mp hj, decide_true, Bool.true_and]
    rw [cg, cg]
    exact kk
