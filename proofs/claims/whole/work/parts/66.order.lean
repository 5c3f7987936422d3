/-! order: the reference's walk along one code -/
theorem mb_add : ∀ (a0 a1 a2 a3 a4 a5 : Bool) (j : Fin 6), (rT (bz a0) (bz a1) (bz a2) (bz a3) (bz a4) (bz a5)) ||| ((1 : Int32) <<< (nI j.val &&& 31)) = rT (bz (a0 || (0 == j.val))) (bz (a1 || (1 == j.val))) (bz (a2 || (2 == j.val))) (bz (a3 || (3 == j.val))) (bz (a4 || (4 == j.val))) (bz (a5 || (5 == j.val))) := by decide +kernel
theorem mk_add (T : Nat → Bool) (j : Nat) (hj : j < 6) : mk T ||| ((1 : Int32) <<< (nI j &&& 31)) = mk (fun i => T i || (i == j)) := mb_add (T 0) (T 1) (T 2) (T 3) (T 4) (T 5) ⟨j, hj⟩
theorem mk_has (T : Nat → Bool) (j : Nat) (hj : j < 6) : f_X10_has (mk T) (nI j) = bz (T j) := by
  unfold f_X10_has
  by_cases h : T j = true
  · rw [if_pos ((mk_bit T j hj).mpr h), h]
    rfl
  · rw [if_neg (fun e => h ((mk_bit T j hj).mp e)), Bool.eq_false_iff.mpr h]
    rfl
/-- the end of a code: the better of the two goes on -/
theorem s_287 (N : Nat) (k106 : Int32 → Int32 → Int32 → Option Int32) (x1 x2 x3 x4 x5 x7 x8 x13 : Int32) (B1 w : Nat) (hB : B1 ≤ 1000000) (hw : w ≤ 1000000) : (if nI B1 ≤ nI w then f_X10_order_287 N k106 x1 x2 x3 x4 x5 (nI B1) x8 (nI w) x7 else f_X10_order_287 N k106 x1 x2 x3 x4 x5 (nI B1) x8 (nI w) x13) = if w < B1 then k106 (nI w) x13 (x8 + 1) else k106 (nI B1) x7 (x8 + 1) := by
  unfold f_X10_order_287
  have e : nI B1 ≤ nI w ↔ B1 ≤ w := by
    rw [Int32.le_iff_toInt_le, nI_toInt (by omega), nI_toInt (by omega)]
    omega
  by_cases h : w < B1
  · have n1 : ¬ nI B1 ≤ nI w := fun q => by
      have := e.mp q
      omega
    rw [if_neg n1, if_neg n1, if_pos h]
  · have p1 : nI B1 ≤ nI w := e.mpr (by omega)
    rw [if_pos p1, if_pos p1, if_neg h]
