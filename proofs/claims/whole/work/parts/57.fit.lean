/-! a round that fits: the two codes -/
theorem nI_oI (a : Nat) : nI a = Int32.ofInt a := Int32.ofInt_eq_ofNat.symm
theorem s_mod20 : ∀ k : Fin 501, f_J9_floorMod_7cf53 (nI k.val - 250) 20 = some (f_X10_cellAt_23 (nI k.val - 250)) ∧ 0 ≤ f_X10_cellAt_23 (nI k.val - 250) ∧ f_X10_cellAt_23 (nI k.val - 250) < 20 := by decide +kernel
theorem s_num (c v p t : Nat) (hc : c < 20) (hv : v < 7) (hp : p < 10) (ht : t < 61) : ∃ k, k < 501 ∧ nI c + (nI v - 3) * (nI t - nI p) = nI k - 250 := by
  have e : nI c + (nI v - 3) * (nI t - nI p) = Int32.ofInt ((c : Int) + ((v : Int) - 3) * ((t : Int) - p)) := by
    rw [Int32.ofInt_add, Int32.ofInt_mul, Int32.ofInt_sub, Int32.ofInt_sub, ← nI_oI, ← nI_oI, ← nI_oI, ← nI_oI]
    rfl
  have b : -250 ≤ (c : Int) + ((v : Int) - 3) * ((t : Int) - p) ∧ (c : Int) + ((v : Int) - 3) * ((t : Int) - p) ≤ 250 := by
    rcases (show v = 0 ∨ v = 1 ∨ v = 2 ∨ v = 3 ∨ v = 4 ∨ v = 5 ∨ v = 6 by omega) with rfl | rfl | rfl | rfl | rfl | rfl | rfl <;> constructor <;> omega
  refine ⟨((c : Int) + ((v : Int) - 3) * ((t : Int) - p) + 250).toNat, by omega, ?_⟩
  rw [e, nI_oI, Int.toNat_of_nonneg (by omega), show (250 : Int32) = Int32.ofInt 250 from rfl, ← Int32.ofInt_sub]
  congr 1
  omega
/-- the class's number k of a round, the reference's code -/
theorem s_cell (c v p t : Nat) (hc : c < 20) (hv : v < 7) (hp : p < 10) (ht : t < 61) : f_X4_cellAt (nI (70 * c + 10 * v + p)) (nI t) = some (f_X10_cellAt (nI (1000 * c + 10 * v + p)) (nI t)) ∧ rng (f_X10_cellAt (nI (1000 * c + 10 * v + p)) (nI t)) 20 := by
  obtain ⟨k, hk, ek⟩ := s_num c v p t hc hv hp ht
  have d1 : nI (70 * c + 10 * v + p) / 70 = nI c := by
    rw [show (70 : Int32) = nI 70 from rfl, pk_div (by omega) (by decide) (by decide)]
    congr 1
    omega
  have d2 : q_rem (nI (70 * c + 10 * v + p) / 10) 7 = nI v := by
    rw [show (10 : Int32) = nI 10 from rfl, pk_div (by omega) (by decide) (by decide)]
    refine (pk_rem (d := 7) (by omega) (by decide) (by decide)).trans ?_
    congr 1
    omega
  have d3 : q_rem (nI (70 * c + 10 * v + p)) 10 = nI p := by
    refine (pk_rem (d := 10) (by omega) (by decide) (by decide)).trans ?_
    congr 1
    omega
  have e1 : nI (1000 * c + 10 * v + p) / 1000 = nI c := by
    rw [show (1000 : Int32) = nI 1000 from rfl, pk_div (by omega) (by decide) (by decide)]
    congr 1
    omega
  have e2 : q_rem (nI (1000 * c + 10 * v + p) / 10) 100 = nI v := by
    rw [show (10 : Int32) = nI 10 from rfl, pk_div (by omega) (by decide) (by decide)]
    refine (pk_rem (d := 100) (by omega) (by decide) (by decide)).trans ?_
    congr 1
    omega
  have e3 : q_rem (nI (1000 * c + 10 * v + p)) 10 = nI p := by
    refine (pk_rem (d := 10) (by omega) (by decide) (by decide)).trans ?_
    congr 1
    omega
  unfold f_X4_cellAt f_X10_cellAt
  rw [d1, d2, d3, e1, e2, e3, ek]
  obtain ⟨m1, m2, m3⟩ := s_mod20 ⟨k, hk⟩
  refine ⟨?_, ?_⟩
  · rw [m1]
    rfl
  · rw [Int32.lt_iff_toInt_lt] at m3
    rw [Int32.le_iff_toInt_le] at m2
    exact rng_of m2 m3
/-- the sights of σ at 14 and of τ -/
def SG (σ τ : q_S) (q : Nat) : Prop := q < 9 ∧ σ.1 14 2 = nI q ∧ τ.1 84 6 = nI q ∧ ∀ j, j < 8 → σ.1 15 j = τ.1 88 (2 * j) ∧ σ.1 16 j = τ.1 88 (2 * j + 1) ∧ rng (σ.1 15 j) 61 ∧ rng (σ.1 16 j) 20
theorem s_fit0 (N m : Nat) (τ : q_S) (x y : Int32) : f_X10_isFit_20 N x τ (m + 1) 0 y = some 0 := by
  rw [f_X10_isFit_20, if_pos (Or.inl rfl), if_pos rfl, ite_self]
theorem s_fitLoop {σ τ : q_S} {q : Nat} (h : SG σ τ q) (N N' c v p : Nat) (hc : c < 20) (hv : v < 7) (hp : p < 10) : ∀ (d j m m' : Nat), j + d = q → d < m → d + 1 < m' → ∃ b : Bool, f_X4_isFit_2 N (nI (70 * c + 10 * v + p)) 14 σ m (nI j) = some (bz b) ∧ f_X10_isFit_20 N' (nI (1000 * c + 10 * v + p)) τ m' 1 (nI j) = some (bz b) := by
  obtain ⟨hq, h1, h2, h3⟩ := h
  intro d
  induction d with
  | zero =>
    intro j m m' hj hm hm'
    obtain ⟨m, rfl⟩ : ∃ k, m = k + 1 := ⟨m - 1, by omega⟩
    obtain ⟨m', rfl⟩ : ∃ k, m' = k + 1 := ⟨m' - 1, by omega⟩
    have e : j = q := by omega
    subst e
    rw [f_X4_isFit_2, f_X10_isFit_20, h1, h2, if_pos (nI_le (Nat.le_refl _) (by omega)), if_pos (nI_le (Nat.le_refl _) (by omega)), if_pos (Or.inr rfl)]
    exact ⟨true, rfl, rfl⟩
  | succ d ih =>
    intro j m m' hj hm hm'
    obtain ⟨m, rfl⟩ : ∃ k, m = k + 1 := ⟨m - 1, by omega⟩
    obtain ⟨m', rfl⟩ : ∃ k, m' = k + 1 + 1 := ⟨m' - 2, by omega⟩
    obtain ⟨g1, g2, ⟨t, ht, g3⟩, g4⟩ := h3 j (by omega)
    obtain ⟨c1, c2⟩ := s_cell c v p t hc hv hp ht
    rw [f_X4_isFit_2, f_X10_isFit_20, h1, h2, if_neg (nI_ge (show j < q by omega) (by omega)), if_neg (nI_ge (show j < q by omega) (by omega)), if_neg (show ¬ (8 : Int32) ≤ nI j from nI_ge (b := 8) (by omega) (by decide)), if_pos (nI_in (show j < 8 by omega) (by decide)), if_neg (show ¬ (1 : Int32) = 0 by decide), show (2 : Int32) * nI j = nI (2 * j) from pk_mul 2 j, if_pos (nI_in (show 2 * j < 16 by omega) (by decide)), nI_1, nI_1, if_pos (nI_in (show 2 * j + 1 < 16 by omega) (by decide)), nI_clamp (show j < _ by omega), nI_clamp (show 2 * j < _ by omega), nI_clamp (show 2 * j + 1 < _ by omega), ← g1, ← g2, g3, c1]
    simp only [Option.bind_some]
    by_cases he : f_X10_cellAt (nI (1000 * c + 10 * v + p)) (nI t) = σ.1 16 j
    · rw [if_pos he, if_pos he]
      exact ih (j + 1) m (m' + 1) (by omega) (by omega) (by omega)
    · rw [if_neg he, if_neg he, s_fit0]
      exact ⟨false, rfl, rfl⟩
theorem s_fit {σ τ : q_S} {q : Nat} (h : SG σ τ q) (n c v p : Nat) (hc : c < 20) (hv : v < 7) (hp : p < 10) : ∃ b : Bool, f_X4_isFit (n + 100) (nI (70 * c + 10 * v + p)) 14 σ = some (bz b) ∧ f_X10_isFit (n + 100) (nI (1000 * c + 10 * v + p)) τ = some (bz b) := by
  have e2 : q_rem (nI (1000 * c + 10 * v + p) / 10) 100 = nI v := by
    rw [show (10 : Int32) = nI 10 from rfl, pk_div (by omega) (by decide) (by decide)]
    refine (pk_rem (d := 100) (by omega) (by decide) (by decide)).trans ?_
    congr 1
    omega
  unfold f_X4_isFit f_X10_isFit
  rw [e2, if_neg (show ¬ (7 : Int32) ≤ nI v from nI_ge (b := 7) hv (by decide))]
  have hq := h.1
  exact s_fitLoop h (n + 100) (n + 100) c v p hc hv hp q 0 (n + 100) (n + 100) (by omega) (by omega) (by omega)
/-- the reference's codes that are no round -/
theorem s_nofit (n x : Nat) (hx : x < 20000) (hv : 7 ≤ x / 10 % 100) (τ : q_S) : f_X10_isFit (n + 100) (nI x) τ = some 0 := by
  have e2 : q_rem (nI x / 10) 100 = nI (x / 10 % 100) := by
    rw [show (10 : Int32) = nI 10 from rfl, pk_div (by omega) (by decide) (by decide)]
    exact pk_rem (d := 100) (by omega) (by decide) (by decide)
  unfold f_X10_isFit
  rw [e2, if_pos (show (7 : Int32) ≤ nI (x / 10 % 100) from (nI_les (a := 7) (by decide) (by omega)).mpr hv)]
  exact s_fit0 (n + 100) (n + 99) τ (nI x) 0
