/-! one walker's moves, on both sides -/
def FC (σ σ' : q_S) : Prop := (∀ p, (p < 17 ∨ 34 ≤ p) → σ'.1 p = σ.1 p) ∧ σ'.2 = σ.2
def FM (τ τ' : q_S) : Prop := (∀ p, p ≠ 86 → τ'.1 p = τ.1 p) ∧ τ'.2 = τ.2
theorem FC_rf (σ : q_S) : FC σ σ := ⟨fun _ _ => rfl, rfl⟩
theorem FM_rf (σ : q_S) : FM σ σ := ⟨fun _ _ => rfl, rfl⟩
theorem FC_tr {a b c : q_S} (h1 : FC a b) (h2 : FC b c) : FC a c := ⟨fun p hp => by rw [h2.1 p hp, h1.1 p hp], by rw [h2.2, h1.2]⟩
theorem FM_tr {a b c : q_S} (h1 : FM a b) (h2 : FM b c) : FM a c := ⟨fun p hp => by rw [h2.1 p hp, h1.1 p hp], by rw [h2.2, h1.2]⟩
theorem s_stepC (n o : Nat) (c : Int32) (σ : q_S) : ∃ σ', f_X8_stepTo (n + 100) o c σ = some σ' ∧ (∀ p, p ≠ o + 6 → σ'.1 p = σ.1 p) ∧ σ'.2 = σ.2 ∧ σ'.1 (o + 6) 0 = c ∧ ∀ k, k < 5 → σ'.1 (o + 6) (k + 1) = σ.1 (o + 6) k := by
  have e : f_X8_stepTo (n + 100) o c σ = some (q_w (q_w (q_w (q_w (q_w (q_w σ (o + 6) 5 (σ.1 (o + 6) 4)) (o + 6) 4 (σ.1 (o + 6) 3)) (o + 6) 3 (σ.1 (o + 6) 2)) (o + 6) 2 (σ.1 (o + 6) 1)) (o + 6) 1 (σ.1 (o + 6) 0)) (o + 6) 0 c) := by
    simp [f_X8_stepTo, f_X8_stepTo_2, s_w1, s_un]
  refine ⟨_, e, fun p hp => ?_, rfl, ?_, fun k hk => ?_⟩
  · simp only [s_wn _ _ _ _ hp]
  · simp only [s_w1]
    rfl
  · simp only [s_w1]
    rcases (show k = 0 ∨ k = 1 ∨ k = 2 ∨ k = 3 ∨ k = 4 by omega) with rfl | rfl | rfl | rfl | rfl <;> rfl
theorem s_moveM (n i : Nat) (hi : i < 6) (c : Int32) (τ : q_S) : ∃ τ', f_X10_moves (n + 100) (nI i) c τ = some τ' ∧ FM τ τ' ∧ τ'.1 86 (6 * i) = c ∧ (∀ k, k < 5 → τ'.1 86 (6 * i + k + 1) = τ.1 86 (6 * i + k)) ∧ ∀ k, (k < 6 * i ∨ 6 * i + 6 ≤ k) → τ'.1 86 k = τ.1 86 k := by
  have e : f_X10_moves (n + 100) (nI i) c τ = some (q_w (q_w (q_w (q_w (q_w (q_w τ 86 (6 * i + 5) (τ.1 86 (6 * i + 4))) 86 (6 * i + 4) (τ.1 86 (6 * i + 3))) 86 (6 * i + 3) (τ.1 86 (6 * i + 2))) 86 (6 * i + 2) (τ.1 86 (6 * i + 1))) 86 (6 * i + 1) (τ.1 86 (6 * i))) 86 (6 * i) c) := by
    rcases s_lt6 hi with rfl | rfl | rfl | rfl | rfl | rfl <;> simp [f_X10_moves, f_X10_moves_2, nI, s_w1, s_un]
  refine ⟨_, e, ⟨fun p hp => ?_, rfl⟩, ?_, fun k hk => ?_, fun k hk => ?_⟩
  · simp only [s_wn _ _ _ _ hp]
  · simp only [s_w1]
    exact s_u1 _ _ _
  · simp only [s_w1]
    unfold upd
    rcases (show k = 0 ∨ k = 1 ∨ k = 2 ∨ k = 3 ∨ k = 4 by omega) with rfl | rfl | rfl | rfl | rfl
    · rw [if_neg (by omega), if_pos (by omega)]
      rfl
    · rw [if_neg (by omega), if_neg (by omega), if_pos (by omega)]
    · rw [if_neg (by omega), if_neg (by omega), if_neg (by omega), if_pos (by omega)]
    · rw [if_neg (by omega), if_neg (by omega), if_neg (by omega), if_neg (by omega), if_pos (by omega)]
    · rw [if_neg (by omega), if_neg (by omega), if_neg (by omega), if_neg (by omega), if_neg (by omega), if_pos (by omega)]
  · simp only [s_w1]
    unfold upd
    rw [if_neg (by omega), if_neg (by omega), if_neg (by omega), if_neg (by omega), if_neg (by omega), if_neg (by omega)]
theorem s_anewM (n i : Nat) (hi : i < 6) (τ : q_S) : ∃ τ', f_X10_tellAnew (n + 100) (nI i) τ = some τ' ∧ FM τ τ' ∧ (∀ k, k < 6 → τ'.1 86 (6 * i + k) = τ.1 86 (6 * i)) ∧ ∀ k, (k < 6 * i ∨ 6 * i + 6 ≤ k) → τ'.1 86 k = τ.1 86 k := by
  have e : f_X10_tellAnew (n + 100) (nI i) τ = some (q_w (q_w (q_w (q_w (q_w τ 86 (6 * i + 1) (τ.1 86 (6 * i))) 86 (6 * i + 2) (τ.1 86 (6 * i))) 86 (6 * i + 3) (τ.1 86 (6 * i))) 86 (6 * i + 4) (τ.1 86 (6 * i))) 86 (6 * i + 5) (τ.1 86 (6 * i))) := by
    rcases s_lt6 hi with rfl | rfl | rfl | rfl | rfl | rfl <;> simp [f_X10_tellAnew, f_X10_tellAnew_2, nI, s_w1, s_un]
  refine ⟨_, e, ⟨fun p hp => ?_, rfl⟩, fun k hk => ?_, fun k hk => ?_⟩
  · simp only [s_wn _ _ _ _ hp]
  · simp only [s_w1]
    unfold upd
    rcases s_lt6 hk with rfl | rfl | rfl | rfl | rfl | rfl
    · rw [if_neg (by omega), if_neg (by omega), if_neg (by omega), if_neg (by omega), if_neg (by omega)]
      rfl
    · rw [if_neg (by omega), if_neg (by omega), if_neg (by omega), if_neg (by omega), if_pos rfl]
    · rw [if_neg (by omega), if_neg (by omega), if_neg (by omega), if_pos rfl]
    · rw [if_neg (by omega), if_neg (by omega), if_pos rfl]
    · rw [if_neg (by omega), if_pos rfl]
    · rw [if_pos rfl]
  · simp only [s_w1]
    unfold upd
    rw [if_neg (by omega), if_neg (by omega), if_neg (by omega), if_neg (by omega), if_neg (by omega)]
theorem s_beginC (n o : Nat) (c : Int32) (σ : q_S) : ∃ σ', f_X8_beginAt (n + 100) o c σ = some σ' ∧ (∀ p, p ≠ o → p ≠ o + 6 → σ'.1 p = σ.1 p) ∧ σ'.2 = σ.2 ∧ σ'.1 o = upd (σ.1 o) 2 0 ∧ ∀ k, k < 6 → σ'.1 (o + 6) k = c := by
  refine ⟨_, s_beginAt n o c σ, fun p h1 h2 => ?_, rfl, ?_, fun k hk => ?_⟩
  · show (if p = o + 6 then _ else (q_w σ o 2 0).1 p) = σ.1 p
    rw [if_neg h2, s_wn _ _ _ _ h1]
  · show (if o = o + 6 then _ else (q_w σ o 2 0).1 o) = _
    rw [if_neg (by omega), s_w1]
  · show (if o + 6 = o + 6 then (fun k => if 0 ≤ k ∧ k < 6 then c else _) else _) k = c
    rw [if_pos rfl]
    exact if_pos ⟨Nat.zero_le _, hk⟩
/-! the relation of one walker behind each -/
theorem rW_move {w u B u' B' : Nat → Int32} {la c : Int32} {i : Nat} (h : rW w u B la i) (hth : w 0 = 1) (hc : rng c 20) (hadj : c = u 0 ∨ c = u 0 + 1 ∨ c = u 0 + (-1)) (hu0 : u' 0 = c) (hu : ∀ k, k < 5 → u' (k + 1) = u k) (hB0 : B' (6 * i) = c) (hB : ∀ k, k < 5 → B' (6 * i + k + 1) = B (6 * i + k)) (h36 : B' (36 + i) = B (36 + i)) (h42 : B' (42 + i) = B (42 + i)) : rW w u' B' la i := by
  obtain ⟨a1, a2, a3, a4, a5, a6, a7, a8, a9, a10, a11⟩ := h
  refine ⟨a1, a2, a3, a4, a5, fun z => by rw [h36]; exact a6 z, fun z => by rw [h36, h42]; exact a7 z, by rw [hB0, hu0], fun z k hk => ?_, fun k hk => ?_, fun k hk => ?_⟩
  · rcases Nat.eq_zero_or_pos k with rfl | hk0
    · rw [hu0]
      exact hB0
    · obtain ⟨k, rfl⟩ : ∃ j, k = j + 1 := ⟨k - 1, by omega⟩
      rw [hu k (by omega), ← a9 z k (by omega)]
      exact hB k (by omega)
  · rcases Nat.eq_zero_or_pos k with rfl | hk0
    · rw [hu0]
      exact hc
    · obtain ⟨k, rfl⟩ : ∃ j, k = j + 1 := ⟨k - 1, by omega⟩
      rw [hu k (by omega)]
      exact a10 k (by omega)
  · rcases Nat.eq_zero_or_pos k with rfl | hk0
    · rw [hu0, hu 0 (by decide)]
      exact hadj
    · obtain ⟨k, rfl⟩ : ∃ j, k = j + 1 := ⟨k - 1, by omega⟩
      rw [hu k (by omega), hu (k + 1) (by omega)]
      exact a11 k (by omega)
/-- his OTHER is his again, or WIND turns: all that he was is where he is -/
theorem rW_anew {w u B w' u' B' : Nat → Int32} {la : Int32} {i : Nat} (h : rW w u B la i) (h0 : w' 0 = w 0) (h1 : w' 1 = w 1) (h2 : w' 2 = 0) (h4 : w' 4 = w 4) (hu : ∀ k, k < 6 → u' k = u 0) (hB0 : B' (6 * i) = B (6 * i)) (hB : w 0 = 1 → ∀ k, k < 6 → B' (6 * i + k) = B (6 * i)) (h36 : B' (36 + i) = -6) : rW w' u' B' la i := by
  obtain ⟨a1, a2, a3, a4, a5, a6, a7, a8, a9, a10, a11⟩ := h
  exact ⟨by rw [h0]; exact a1, Or.inl h2, by rw [h4]; exact a3, by rw [h1]; exact a4, by rw [h1]; exact a5, fun _ => h36, fun z => by rw [h2] at z; exact absurd z (by decide), by rw [hB0, hu 0 (by decide), a8], fun z k hk => by rw [h0] at z; rw [hB z k hk, hu k hk, a8], fun k hk => by rw [hu k hk]; exact a10 0 (by decide), fun k hk => Or.inl (by rw [hu k (by omega), hu (k + 1) (by omega)])⟩
/-- his OTHER parts, or goes on -/
theorem rW_part {w u B w' B' : Nat → Int32} {la c e : Int32} {i : Nat} (h : rW w u B la i) (h0 : w' 0 = w 0) (h1 : w' 1 = w 1) (h2 : w' 2 = 1) (h3 : w' 3 = c) (h4 : w' 4 = e) (he : e = 0 ∨ e = 1) (hc : rng c 20) (hB : ∀ k, k < 6 → B' (6 * i + k) = B (6 * i + k)) (h36 : B' (36 + i) = c) (h42 : B' (42 + i) = e) : rW w' u B' la i := by
  obtain ⟨a1, a2, a3, a4, a5, a6, a7, a8, a9, a10, a11⟩ := h
  exact ⟨by rw [h0]; exact a1, Or.inr h2, by rw [h4]; exact he, by rw [h1]; exact a4, by rw [h1]; exact a5, fun z => by rw [h2] at z; exact absurd z (by decide), fun _ => ⟨by rw [h36, h3], by rw [h42, h4], by rw [h3]; exact hc⟩, by have := hB 0 (by decide); rw [← a8]; exact this, fun z k hk => by rw [h0] at z; rw [hB k hk]; exact a9 z k hk, a10, a11⟩
/-- one walker changed -/
theorem rB_one {σ σ' : q_S} {B B' lt sg : Nat → Int32} {th ar gp sc : Int32} (i : Nat) (hi : i < 6) (h : rB σ 17 B lt sg th ar gp sc) (hf : ∀ k, k < 17 → k ≠ 2 + i → k ≠ 8 + i → σ'.1 (17 + k) = σ.1 (17 + k)) (h0 : σ'.1 (17 + 2 + i) 0 = σ.1 (17 + 2 + i) 0) (hw : rW (σ'.1 (17 + 2 + i)) (σ'.1 (17 + 8 + i)) B' (lt i) i) (hB : ∀ k, k < 50 → (k < 6 * i ∨ 6 * i + 6 ≤ k) → k ≠ 36 + i → k ≠ 42 + i → B' k = B k) : rB σ' 17 B' lt sg th ar gp sc := by
  have hwj : ∀ j, j < 6 → rW (σ'.1 (17 + 2 + j)) (σ'.1 (17 + 8 + j)) B' (lt j) j := by
    intro j hj
    by_cases hji : j = i
    · subst hji; exact hw
    · have e1 : σ'.1 (17 + 2 + j) = σ.1 (17 + 2 + j) := by
        have := hf (2 + j) (by omega) (by omega) (by omega)
        rw [show 17 + 2 + j = 17 + (2 + j) by omega]
        exact this
      have e2 : σ'.1 (17 + 8 + j) = σ.1 (17 + 8 + j) := by
        have := hf (8 + j) (by omega) (by omega) (by omega)
        rw [show 17 + 8 + j = 17 + (8 + j) by omega]
        exact this
      rw [e1, e2]
      exact rW_congr (rB_w h j hj) (hB _ (by omega) (by omega) (by omega) (by omega)) (hB _ (by omega) (by omega) (by omega) (by omega)) (fun k hk => hB _ (by omega) (by omega) (by omega) (by omega))
  have h0j : ∀ j, j < 6 → σ'.1 (17 + 2 + j) 0 = σ.1 (17 + 2 + j) 0 := by
    intro j hj
    by_cases hji : j = i
    · subst hji; exact h0
    · have := hf (2 + j) (by omega) (by omega) (by omega)
      rw [show 17 + 2 + j = 17 + (2 + j) by omega, this]
  obtain ⟨hA, hG, hWd, hBt, hT, -, -, -, -, -, -, hS⟩ := h
  have r0 : σ'.1 17 = σ.1 17 := hf 0 (by decide) (by omega) (by omega)
  refine ⟨by rw [r0]; exact hA, by rw [r0]; exact hG, by rw [r0, hB 48 (by decide) (by omega) (by omega) (by omega)]; exact hWd, by rw [r0, hB 49 (by decide) (by omega) (by omega) (by omega)]; exact hBt, ?_, hwj 0 (by decide), hwj 1 (by decide), hwj 2 (by decide), hwj 3 (by decide), hwj 4 (by decide), hwj 5 (by decide), ?_⟩
  · rw [hT]
    show rT (σ.1 (17 + 2 + 0) 0) (σ.1 (17 + 2 + 1) 0) (σ.1 (17 + 2 + 2) 0) (σ.1 (17 + 2 + 3) 0) (σ.1 (17 + 2 + 4) 0) (σ.1 (17 + 2 + 5) 0) = rT (σ'.1 (17 + 2 + 0) 0) (σ'.1 (17 + 2 + 1) 0) (σ'.1 (17 + 2 + 2) 0) (σ'.1 (17 + 2 + 3) 0) (σ'.1 (17 + 2 + 4) 0) (σ'.1 (17 + 2 + 5) 0)
    rw [h0j 0 (by decide), h0j 1 (by decide), h0j 2 (by decide), h0j 3 (by decide), h0j 4 (by decide), h0j 5 (by decide)]
  · rw [hf 14 (by decide) (by omega) (by omega), hf 15 (by decide) (by omega) (by omega), hf 16 (by decide) (by omega) (by omega)]
    exact hS
