/-! order: the search, as plain numbers -/
def ordS (c l : Nat → Nat) : Nat → (Nat → Bool) → Nat → Nat → Nat → Nat × Nat → Nat × Nat
  | 0, _, _, w, o, B => if w < B.1 then (w, o) else B
  | k + 1, S, f, w, o, B => (List.range 6).foldl (fun B j => if S j then ordS c l k (fun i => S i && !(i == j)) (max f (c j) + l j) (w + (max f (c j) - c j)) (o * 10 + j) B else B) B
theorem fold_same {α β : Type} (g : α → β → α) (B : α) (xs : List β) (h : ∀ x, g B x = B) : xs.foldl g B = B := by
  induction xs with
  | nil => rfl
  | cons x xs ih => rw [List.foldl_cons, h x, ih]
/-- waits only grow: no order behind a wait that is not less than the least one -/
theorem ordS_prune (c l : Nat → Nat) : ∀ (k : Nat) (S : Nat → Bool) (f w o : Nat) (B : Nat × Nat), B.1 ≤ w → ordS c l k S f w o B = B := by
  intro k
  induction k with
  | zero =>
    intro S f w o B h
    unfold ordS
    rw [if_neg (by omega)]
  | succ k ih =>
    intro S f w o B h
    unfold ordS
    refine fold_same _ _ _ (fun j => ?_)
    by_cases hs : S j = true
    · rw [if_pos hs, ih _ _ _ _ _ (by omega)]
    · rw [if_neg hs]
