/-! ask: where a round is at a beat, counts over the rounds that fit -/
def aC (k t : Nat) : Nat := (f_X10_cellAt (nI (fcd k)) (nI t)).toNatClampNeg
def aN (c v p t : Nat) : Nat := ((c : Int) + ((v : Int) - 3) * ((t : Int) - p) + 250).toNat
theorem a_num (c v p t : Nat) (hc : c < 20) (hv : v < 7) (hp : p < 10) (ht : t < 61) : aN c v p t < 501 ∧ nI c + (nI v - 3) * (nI t - nI p) = nI (aN c v p t) - 250 := by
  have e : nI c + (nI v - 3) * (nI t - nI p) = Int32.ofInt ((c : Int) + ((v : Int) - 3) * ((t : Int) - p)) := by
    rw [Int32.ofInt_add, Int32.ofInt_mul, Int32.ofInt_sub, Int32.ofInt_sub, ← nI_oI, ← nI_oI, ← nI_oI, ← nI_oI]
    rfl
  have b : -250 ≤ (c : Int) + ((v : Int) - 3) * ((t : Int) - p) ∧ (c : Int) + ((v : Int) - 3) * ((t : Int) - p) ≤ 250 := by
    rcases (show v = 0 ∨ v = 1 ∨ v = 2 ∨ v = 3 ∨ v = 4 ∨ v = 5 ∨ v = 6 by omega) with rfl | rfl | rfl | rfl | rfl | rfl | rfl <;> constructor <;> omega
  unfold aN
  refine ⟨by omega, ?_⟩
  rw [e, nI_oI, Int.toNat_of_nonneg (by omega), show (250 : Int32) = Int32.ofInt 250 from rfl, ← Int32.ofInt_sub]
  congr 1
  omega
theorem a_mod20 : ∀ k : Fin 501, (f_X10_cellAt_23 (nI k.val - 250)).toNatClampNeg = (k.val + 10) % 20 := by decide +kernel
theorem a_C (k t : Nat) (hk : k < 1400) (ht : t < 61) : aC k t = (aN (k / 70) (k % 70 / 10) (k % 70 % 10) t + 10) % 20 := by
  have hf : fcd k = 1000 * (k / 70) + 10 * (k % 70 / 10) + k % 70 % 10 := by unfold fcd; omega
  have hc : k / 70 < 20 := by omega
  have hv : k % 70 / 10 < 7 := by omega
  have hp : k % 70 % 10 < 10 := by omega
  unfold aC
  rw [hf]
  generalize k / 70 = c at *
  generalize k % 70 % 10 = p at *
  generalize k % 70 / 10 = v at *
  have e1 : nI (1000 * c + 10 * v + p) / 1000 = nI c := by
    rw [show (1000 : Int32) = nI 1000 from rfl, pk_div (by omega) (by decide) (by decide)]
    congr 1
    omega
  have e2 : q_rem (nI (1000 * c + 10 * v + p) / 10) 100 = nI v := by
    rw [show (10 : Int32) = nI 10 from rfl, pk_div (by omega) (by decide) (by decide)]
    refine (pk_rem (d := 100) (by omega) (by decide) (by decide)).trans ?_
    congr 1
    omega
  have e3 : q_rem (nI (1000 * c + 10 * v + p)) 10 = nI p := by
    refine (pk_rem (d := 10) (by omega) (by decide) (by decide)).trans ?_
    congr 1
    omega
  obtain ⟨n1, n2⟩ := a_num c v p t hc hv hp ht
  unfold f_X10_cellAt
  rw [e1, e2, e3, n2]
  exact a_mod20 ⟨_, n1⟩
theorem a_per (k t : Nat) (hk : k < 1400) (ht : t + 20 < 61) : aC k (t + 20) = aC k t := by
  rw [a_C k t hk (by omega), a_C k (t + 20) hk ht]
  have hc : k / 70 < 20 := by omega
  have hv : k % 70 / 10 < 7 := by omega
  have hp : k % 70 % 10 < 10 := by omega
  generalize k / 70 = c at *
  generalize k % 70 % 10 = p at *
  generalize k % 70 / 10 = v at *
  unfold aN
  rcases (show v = 0 ∨ v = 1 ∨ v = 2 ∨ v = 3 ∨ v = 4 ∨ v = 5 ∨ v = 6 by omega) with rfl | rfl | rfl | rfl | rfl | rfl | rfl <;> omega
theorem a_cell (k t : Nat) (hk : k < 1400) (ht : t < 61) : f_X4_cellAt (nI k) (nI t) = some (nI (aC k t)) ∧ f_X10_cellAt (nI (fcd k)) (nI t) = nI (aC k t) ∧ aC k t < 20 := by
  obtain ⟨e1, c, hc, e2⟩ := s_cell (k / 70) (k % 70 / 10) (k % 70 % 10) t (by omega) (by omega) (by omega) ht
  rw [show 70 * (k / 70) + 10 * (k % 70 / 10) + k % 70 % 10 = k by omega, show 1000 * (k / 70) + 10 * (k % 70 / 10) + k % 70 % 10 = fcd k by unfold fcd; omega] at e1
  rw [show 1000 * (k / 70) + 10 * (k % 70 / 10) + k % 70 % 10 = fcd k by unfold fcd; omega] at e2
  have h : aC k t = c := by
    unfold aC
    rw [e2, nI_clamp (by omega)]
  rw [h, e1, e2]
  exact ⟨rfl, rfl, hc⟩
/-- the rounds below x that fit -/
def aL (F : Nat → Bool) : Nat → List Nat
  | 0 => []
  | x + 1 => if F x then aL F x ++ [x] else aL F x
theorem aL_lt (F : Nat → Bool) : ∀ x k, k ∈ aL F x → k < x := by
  intro x
  induction x with
  | zero =>
    intro k h
    cases h
  | succ x ih =>
    intro k h
    rw [aL] at h
    by_cases hF : F x = true
    · rw [if_pos hF] at h
      rcases List.mem_append.mp h with h | h
      · have := ih k h
        omega
      · have := List.mem_singleton.mp h
        omega
    · rw [if_neg hF] at h
      have := ih k h
      omega
theorem aL_len (F : Nat → Bool) : ∀ x, (aL F x).length ≤ x := by
  intro x
  induction x with
  | zero => exact Nat.le_refl _
  | succ x ih =>
    rw [aL]
    by_cases hF : F x = true
    · rw [if_pos hF, List.length_append]
      exact Nat.succ_le_succ ih
    · rw [if_neg hF]
      omega
def aK (L : List Nat) (t c : Nat) : Nat := L.countP (fun k => decide (aC k t = c))
theorem aK_app (L : List Nat) (k t c : Nat) : aK (L ++ [k]) t c = aK L t c + if aC k t = c then 1 else 0 := by
  unfold aK
  rw [List.countP_append]
  by_cases h : aC k t = c <;> simp [h]
theorem aK_len (L : List Nat) (t c : Nat) : aK L t c ≤ L.length := List.countP_le_length
theorem aK_per (L : List Nat) (t c : Nat) (hL : ∀ k, k ∈ L → k < 1400) (ht : t + 20 < 61) : aK L (t + 20) c = aK L t c := by
  unfold aK
  apply List.countP_congr
  intro k hk
  rw [a_per k t (hL k hk) ht]
def aM (G : Nat → Nat) : Nat → Nat
  | 0 => 0
  | c + 1 => if aM G c < G c then G c else aM G c
theorem aM_ge (G : Nat → Nat) : ∀ n c, c < n → G c ≤ aM G n := by
  intro n
  induction n with
  | zero => intro c h; omega
  | succ n ih =>
    intro c h
    rw [aM]
    by_cases hc : c = n
    · subst hc
      split <;> omega
    · have := ih c (by omega)
      split <;> omega
theorem aM_le (G : Nat → Nat) (w : Nat) : ∀ n, (∀ c, c < n → G c ≤ w) → aM G n ≤ w := by
  intro n
  induction n with
  | zero => intro _; exact Nat.zero_le _
  | succ n ih =>
    intro h
    rw [aM]
    have h1 := ih (fun c hc => h c (by omega))
    have h2 := h n (by omega)
    split <;> omega
theorem aM_congr (G H : Nat → Nat) : ∀ n, (∀ c, c < n → G c = H c) → aM G n = aM H n := by
  intro n
  induction n with
  | zero => intro _; rfl
  | succ n ih =>
    intro h
    rw [aM, aM, ih (fun c hc => h c (by omega)), h n (by omega)]
/-- one more of c0 -/
theorem aM_inc (G H : Nat → Nat) (n c0 : Nat) (h0 : c0 < n) (hH : ∀ c, H c = G c + if c0 = c then 1 else 0) : aM H n = if H c0 ≤ aM G n then aM G n else H c0 := by
  have e0 : H c0 = G c0 + 1 := by rw [hH, if_pos rfl]
  apply Nat.le_antisymm
  · apply aM_le
    intro c hc
    have hg := aM_ge G n c hc
    by_cases h : c0 = c
    · subst h
      split <;> omega
    · have : H c = G c := by rw [hH, if_neg h]; rfl
      split <;> omega
  · have h1 := aM_ge H n c0 h0
    have h2 : aM G n ≤ aM H n := by
      apply aM_le
      intro c hc
      have := aM_ge H n c hc
      have := hH c
      omega
    split <;> omega
/-- the greatest crowd at the beat t -/
def aW (L : List Nat) (t : Nat) : Nat := aM (aK L t) 20
theorem aW_app (L : List Nat) (k t : Nat) (hk : k < 1400) (ht : t < 61) : aW (L ++ [k]) t = if aK (L ++ [k]) t (aC k t) ≤ aW L t then aW L t else aK (L ++ [k]) t (aC k t) :=
  aM_inc (aK L t) (aK (L ++ [k]) t) 20 (aC k t) (a_cell k t hk ht).2.2 (fun c => aK_app L k t c)
theorem aW_len (L : List Nat) (t : Nat) : aW L t ≤ L.length := aM_le _ _ _ (fun c _ => aK_len L t c)
theorem aW_pos (k : Nat) (L : List Nat) (t : Nat) (hk : k < 1400) (ht : t < 61) : 0 < aW (k :: L) t := by
  have h := aM_ge (aK (k :: L) t) 20 (aC k t) (a_cell k t hk ht).2.2
  have h2 : 0 < aK (k :: L) t (aC k t) := by
    unfold aK
    rw [List.countP_pos_iff]
    exact ⟨k, List.mem_cons_self, by simp⟩
  unfold aW
  omega
theorem aW_nil (t : Nat) : aW [] t = 0 := Nat.le_zero.mp (aM_le _ _ _ (fun c _ => Nat.le_of_eq rfl))
theorem aW_per (L : List Nat) (t : Nat) (hL : ∀ k, k ∈ L → k < 1400) (ht : t + 20 < 61) : aW L (t + 20) = aW L t := aM_congr _ _ _ (fun c _ => aK_per L t c hL ht)
/-- the first beat of the least greatest crowd -/
def aB (W : Nat → Nat) : Nat → Nat × Nat
  | 0 => (0, 1000000)
  | x + 1 => if W x < (aB W x).2 then (x, W x) else aB W x
theorem aB_le (W : Nat → Nat) : ∀ x s, s < x → (aB W x).2 ≤ W s := by
  intro x
  induction x with
  | zero => intro s h; omega
  | succ x ih =>
    intro s h
    rw [aB]
    by_cases hs : s = x
    · subst hs
      split
      · exact Nat.le_refl _
      · omega
    · have := ih s (by omega)
      split
      · show W x ≤ W s
        omega
      · exact this
theorem aB_per (W : Nat → Nat) (hW : ∀ t, t + 20 < 61 → W (t + 20) = W t) : ∀ j, 20 + j < 62 → aB W (20 + j) = aB W 20 := by
  intro j
  induction j with
  | zero => intro _; rfl
  | succ j ih =>
    intro h
    rw [show 20 + (j + 1) = 20 + j + 1 by omega, aB, ih (by omega)]
    have h1 : ∃ s, s < 20 ∧ W (20 + j) = W s := by
      by_cases h20 : j < 20
      · exact ⟨j, h20, by rw [Nat.add_comm]; exact hW j (by omega)⟩
      · by_cases h40 : j < 40
        · refine ⟨j - 20, by omega, ?_⟩
          rw [show 20 + j = j - 20 + 20 + 20 by omega, hW _ (by omega), hW _ (by omega)]
        · refine ⟨j - 40, by omega, ?_⟩
          rw [show 20 + j = j - 40 + 20 + 20 + 20 by omega, hW _ (by omega), hW _ (by omega), hW _ (by omega)]
    obtain ⟨s, hs, e⟩ := h1
    have := aB_le W 20 s hs
    rw [if_neg (by omega)]
theorem aB_bd (W : Nat → Nat) (hW : ∀ t, W t ≤ 1400) : ∀ x, x < 62 → (aB W x).1 < 62 ∧ (aB W x).2 ≤ 1000000 ∧ (0 < x → (aB W x).2 ≤ 1400) := by
  intro x
  induction x with
  | zero => intro _; exact ⟨(show (0 : Nat) < 62 by decide), (show (1000000 : Nat) ≤ 1000000 by decide), fun h => absurd h (by decide)⟩
  | succ x ih =>
    intro hx
    have h1 := ih (by omega)
    have h2 := hW x
    rw [aB]
    by_cases h : W x < (aB W x).2
    · rw [if_pos h]
      exact ⟨by show x < 62; omega, by show W x ≤ 1000000; omega, fun _ => h2⟩
    · rw [if_neg h]
      exact ⟨h1.1, h1.2.1, fun _ => by omega⟩
