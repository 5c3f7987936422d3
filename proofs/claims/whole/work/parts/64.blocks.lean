/-! order: the reference's codes, block by block -/
def ev (c l : Nat → Nat) : Nat → (Nat → Bool) → Nat → Nat → Nat → Nat → Option (Nat × Nat)
  | 0, _, _, w, o, _ => some (w, o)
  | k + 1, S, f, w, o, y => if S (y / 6 ^ k) then ev c l k (fun i => S i && !(i == y / 6 ^ k)) (max f (c (y / 6 ^ k)) + l (y / 6 ^ k)) (w + (max f (c (y / 6 ^ k)) - c (y / 6 ^ k))) (o * 10 + y / 6 ^ k) (y % 6 ^ k) else none
def bt (B : Nat × Nat) : Option (Nat × Nat) → Nat × Nat
  | none => B
  | some r => if r.1 < B.1 then r else B
/-- from the code x on, d codes -/
def run (g : Nat → Option (Nat × Nat)) : Nat → Nat → Nat × Nat → Nat × Nat
  | 0, _, B => B
  | d + 1, x, B => run g d (x + 1) (bt B (g x))
theorem run_add (g : Nat → Option (Nat × Nat)) : ∀ (d e x : Nat) (B : Nat × Nat), run g (d + e) x B = run g e (x + d) (run g d x B) := by
  intro d
  induction d with
  | zero =>
    intro e x B
    rw [Nat.zero_add]
    rfl
  | succ d ih =>
    intro e x B
    rw [show d + 1 + e = (d + e) + 1 by omega]
    show run g (d + e) (x + 1) (bt B (g x)) = run g e (x + (d + 1)) (run g d (x + 1) (bt B (g x)))
    rw [ih e (x + 1), show x + 1 + d = x + (d + 1) by omega]
theorem run_congr (g g' : Nat → Option (Nat × Nat)) : ∀ (d x x' : Nat) (B : Nat × Nat), (∀ y, y < d → g (x + y) = g' (x' + y)) → run g d x B = run g' d x' B := by
  intro d
  induction d with
  | zero =>
    intro x x' B h
    rfl
  | succ d ih =>
    intro x x' B h
    show run g d (x + 1) (bt B (g x)) = run g' d (x' + 1) (bt B (g' x'))
    rw [show g x = g' x' from h 0 (by omega)]
    exact ih (x + 1) (x' + 1) _ (fun y hy => by have := h (y + 1) (by omega); rw [show x + 1 + y = x + (y + 1) by omega, show x' + 1 + y = x' + (y + 1) by omega]; exact this)
theorem run_none (g : Nat → Option (Nat × Nat)) : ∀ (d x : Nat) (B : Nat × Nat), (∀ y, y < d → g (x + y) = none) → run g d x B = B := by
  intro d
  induction d with
  | zero =>
    intro x B h
    rfl
  | succ d ih =>
    intro x B h
    show run g d (x + 1) (bt B (g x)) = B
    rw [show g x = none from h 0 (by omega)]
    exact ih (x + 1) B (fun y hy => by have := h (y + 1) (by omega); rw [show x + 1 + y = x + (y + 1) by omega]; exact this)
theorem run_ordS (c l : Nat → Nat) : ∀ (k : Nat) (S : Nat → Bool) (f w o : Nat) (B : Nat × Nat), run (ev c l k S f w o) (6 ^ k) 0 B = ordS c l k S f w o B := by
  intro k
  induction k with
  | zero =>
    intro S f w o B
    show bt B (some (w, o)) = _
    rfl
  | succ k ih =>
    intro S f w o B
    have hk : 0 < 6 ^ k := Nat.pow_pos (by decide)
    have blk : ∀ (j : Nat) (B : Nat × Nat), run (ev c l (k + 1) S f w o) (6 ^ k) (j * 6 ^ k) B = if S j then ordS c l k (fun i => S i && !(i == j)) (max f (c j) + l j) (w + (max f (c j) - c j)) (o * 10 + j) B else B := by
      intro j B
      have hd : ∀ y, y < 6 ^ k → (j * 6 ^ k + y) / 6 ^ k = j ∧ (j * 6 ^ k + y) % 6 ^ k = y := fun y hy => by
        constructor
        · rw [Nat.mul_comm, Nat.mul_add_div hk, Nat.div_eq_of_lt hy, Nat.add_zero]
        · rw [Nat.mul_comm, Nat.mul_add_mod, Nat.mod_eq_of_lt hy]
      by_cases hs : S j = true
      · rw [if_pos hs, ← ih]
        refine run_congr _ _ _ _ _ _ (fun y hy => ?_)
        rw [ev, (hd y hy).1, (hd y hy).2, if_pos hs, Nat.zero_add]
      · rw [if_neg hs]
        refine run_none _ _ _ _ (fun y hy => ?_)
        rw [ev, (hd y hy).1, if_neg hs]
    rw [show 6 ^ (k + 1) = 6 ^ k + (6 ^ k + (6 ^ k + (6 ^ k + (6 ^ k + 6 ^ k)))) by rw [Nat.pow_succ]; omega, run_add, run_add, run_add, run_add, run_add]
    have b0 := blk 0
    have b1 := blk 1
    have b2 := blk 2
    have b3 := blk 3
    have b4 := blk 4
    have b5 := blk 5
    rw [show 0 * 6 ^ k = 0 by omega] at b0
    rw [show 1 * 6 ^ k = 0 + 6 ^ k by omega] at b1
    rw [show 2 * 6 ^ k = 0 + 6 ^ k + 6 ^ k by omega] at b2
    rw [show 3 * 6 ^ k = 0 + 6 ^ k + 6 ^ k + 6 ^ k by omega] at b3
    rw [show 4 * 6 ^ k = 0 + 6 ^ k + 6 ^ k + 6 ^ k + 6 ^ k by omega] at b4
    rw [show 5 * 6 ^ k = 0 + 6 ^ k + 6 ^ k + 6 ^ k + 6 ^ k + 6 ^ k by omega] at b5
    rw [b0, b1, b2, b3, b4, b5]
    rfl
