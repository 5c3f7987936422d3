/-! copying loops -/
theorem s_cp_0 (σ : q_S) (a b x y : Nat) : q_cp σ a b x y 0 = σ := by
  refine s_ext (fun p k => ?_) rfl
  show (if p = b then va_cpy (σ.1 a) (σ.1 b) x y 0 else σ.1 p) k = σ.1 p k
  by_cases hp : p = b
  · rw [if_pos hp, pk_cpy_out (by omega), hp]
  · rw [if_neg hp]
theorem s_cp_s (σ : q_S) {a b : Nat} (hab : a ≠ b) (x y d : Nat) : q_cp (q_w σ b y (σ.1 a x)) a b (x + 1) (y + 1) d = q_cp σ a b x y (d + 1) := by
  refine s_ext (fun p k => ?_) rfl
  show (if p = b then va_cpy ((q_w σ b y (σ.1 a x)).1 a) ((q_w σ b y (σ.1 a x)).1 b) (x + 1) (y + 1) d else (q_w σ b y (σ.1 a x)).1 p) k = (if p = b then va_cpy (σ.1 a) (σ.1 b) x y (d + 1) else σ.1 p) k
  by_cases hp : p = b
  · rw [if_pos hp, if_pos hp, s_w1, s_wn _ _ _ _ hab]
    by_cases hk : y ≤ k ∧ k < y + (d + 1)
    · rw [pk_cpy_in hk.1 hk.2]
      by_cases hk2 : k = y
      · subst hk2
        rw [pk_cpy_out (by omega), s_u1]
        exact congrArg (σ.1 a) (by omega)
      · rw [pk_cpy_in (by omega) (by omega)]
        exact congrArg (σ.1 a) (by omega)
    · rw [pk_cpy_out (by omega), pk_cpy_out (by omega), s_un _ _ _ (by omega)]
  · rw [if_neg hp, if_neg hp, s_wn _ _ _ _ hp]

theorem s_asNow_l (N : Nat) : ∀ (d i m : Nat) (σ : q_S), i + d = 50 → d < m → f_X10_asNow_2 N m (nI i) σ = some (q_w (q_w (q_cp σ 85 86 i i d) 84 10 (-6)) 84 11 (-6)) := by
  intro d
  induction d with
  | zero =>
    intro i m σ h1 h2
    obtain ⟨m, rfl⟩ : ∃ m', m = m' + 1 := ⟨m - 1, by omega⟩
    have e : i = 50 := by omega
    subst e
    rw [f_X10_asNow_2, if_pos (by decide), s_cp_0]
  | succ d ih =>
    intro i m σ h1 h2
    obtain ⟨m, rfl⟩ : ∃ m', m = m' + 1 := ⟨m - 1, by omega⟩
    rw [f_X10_asNow_2, if_neg (show ¬ (50 : Int32) ≤ nI i from nI_ge (b := 50) (by omega) (by decide)), if_pos (nI_in (show i < 50 by omega) (by decide)), nI_clamp (by omega), nI_1, ih (i + 1) m _ (by omega) (by omega), s_cp_s σ (by decide)]
theorem s_asNow (n : Nat) (σ : q_S) : f_X10_asNow (n + 100) σ = some (q_w (q_w (q_cp σ 85 86 0 0 50) 84 10 (-6)) 84 11 (-6)) := by
  unfold f_X10_asNow
  exact s_asNow_l _ 50 0 _ σ (by decide) (by omega)
theorem s_done_l (N : Nat) : ∀ (d i m : Nat) (σ : q_S), i + d = 50 → d < m → f_X10_done_12 N m (nI i) σ = some ((q_cp σ 86 85 i i d).1 84 13, q_w (q_cp σ 86 85 i i d) 84 8 0) := by
  intro d
  induction d with
  | zero =>
    intro i m σ h1 h2
    obtain ⟨m, rfl⟩ : ∃ m', m = m' + 1 := ⟨m - 1, by omega⟩
    have e : i = 50 := by omega
    subst e
    rw [f_X10_done_12, if_pos (by decide), s_cp_0]
    rfl
  | succ d ih =>
    intro i m σ h1 h2
    obtain ⟨m, rfl⟩ : ∃ m', m = m' + 1 := ⟨m - 1, by omega⟩
    rw [f_X10_done_12, if_neg (show ¬ (50 : Int32) ≤ nI i from nI_ge (b := 50) (by omega) (by decide)), if_pos (nI_in (show i < 50 by omega) (by decide)), nI_clamp (by omega), nI_1, ih (i + 1) m _ (by omega) (by omega), s_cp_s σ (by decide)]

/-- the reference's row is looked at by its first fifty: a copy of it serves -/
theorem s_cp_at (σ : q_S) (a b n k : Nat) (hk : k < n) : (q_cp σ a b 0 0 n).1 b k = σ.1 a k := by
  show (if b = b then va_cpy (σ.1 a) (σ.1 b) 0 0 n else σ.1 b) k = σ.1 a k
  rw [if_pos rfl, pk_cpy_in (by omega) (by omega)]
  exact congrArg (σ.1 a) (by omega)
theorem s_cp_n (σ : q_S) (a b x y n : Nat) {p : Nat} (hp : p ≠ b) : (q_cp σ a b x y n).1 p = σ.1 p := if_neg hp
theorem rW_lt {w u B : Nat → Int32} {la : Int32} {i : Nat} (h : rW w u B la i) : rng (w 1) 6 := h.2.2.2.2.1
/-- is he there -/
theorem s_isThere {σ τ : q_S} {r : Nat} {B lt sg : Nat → Int32} {th ar gp sc : Int32} (h : rB σ r B lt sg th ar gp sc) (hτ : τ.1 84 2 = th) (x : Int32) :
    (f_X3_has r x σ = some 0 ∧ f_X10_isThere x τ = 0) ∨ (f_X3_has r x σ = some 1 ∧ f_X10_isThere x τ = 1 ∧ ∃ i, i < 6 ∧ x = nI i ∧ σ.1 (r + 2 + i) 0 = 1) := by
  have ht := rB_there h
  have hT : th = rT (σ.1 (r + 2) 0) (σ.1 (r + 3) 0) (σ.1 (r + 4) 0) (σ.1 (r + 5) 0) (σ.1 (r + 6) 0) (σ.1 (r + 7) 0) := h.2.2.2.2.1
  have hh := s_has _ _ _ _ _ _ ht.1 ht.2.1 ht.2.2.1 ht.2.2.2.1 ht.2.2.2.2.1 ht.2.2.2.2.2
  rw [← hT] at hh
  unfold f_X3_has f_X10_isThere
  rw [s_wI, s_wM, hτ]
  by_cases hx : 0 ≤ x ∧ x ≤ 5
  · rw [if_pos hx]
    have hx' := (s_rng x 5 5 rfl).mp hx
    simp only [show ¬ ((1 : Int32) = 0) by decide, if_false]
    rw [if_pos (rng_in hx' (by decide))]
    obtain ⟨i, hi, rfl⟩ := hx'
    rw [nI_clamp (by omega)]
    have key : f_X10_has th (nI i) = σ.1 (r + 2 + i) 0 ∧ (σ.1 (r + 2 + i) 0 = 0 ∨ σ.1 (r + 2 + i) 0 = 1) := by
      rcases s_lt6 hi with rfl | rfl | rfl | rfl | rfl | rfl
      · exact ⟨hh.1, ht.1⟩
      · exact ⟨hh.2.1, ht.2.1⟩
      · exact ⟨hh.2.2.1, ht.2.2.1⟩
      · exact ⟨hh.2.2.2.1, ht.2.2.2.1⟩
      · exact ⟨hh.2.2.2.2.1, ht.2.2.2.2.1⟩
      · exact ⟨hh.2.2.2.2.2, ht.2.2.2.2.2⟩
    rw [key.1]
    rcases key.2 with e | e
    · rw [e]
      exact Or.inl ⟨rfl, rfl⟩
    · rw [e]
      exact Or.inr ⟨rfl, rfl, i, hi, rfl, e⟩
  · rw [if_neg hx]
    exact Or.inl ⟨rfl, rfl⟩
/-! leave -/
theorem rW_leave {w u B : Nat → Int32} {la : Int32} {i : Nat} (h : rW w u B la i) : rW (upd w 0 0) u B la i := by
  obtain ⟨a1, a2, a3, a4, a5, a6, a7, a8, a9, a10, a11⟩ := h
  exact ⟨Or.inl rfl, a2, a3, a4, a5, a6, a7, a8, fun z => absurd z (by show ¬ ((0 : Int32) = 1); decide), a10, a11⟩
theorem o_leave (n : Nat) (x : Int32) : Ok (f_X9_leave (n + 100) x) (f_X10_leave (n + 100) x) := by
  intro σ h
  unfold f_X9_leave
  have ht := rB_there h.1
  have hs := (s_set _ _ _ _ _ _ ht.1 ht.2.1 ht.2.2.1 ht.2.2.2.1 ht.2.2.2.2.1 ht.2.2.2.2.2).2
  rcases s_isThere (τ := σ) h.1 rfl x with ⟨h1, h2⟩ | ⟨h1, h2, i, hi, rfl, h3⟩
  · rw [h1]
    refine ⟨_, _, σ, rfl, ?_, h⟩
    unfold f_X10_leave
    rw [h2]
    rfl
  · rw [h1]
    simp only [Option.bind_some, show ¬ ((1 : Int32) = 0) by decide, if_false]
    rw [if_pos (nI_in hi (by decide)), s_tb]
    simp only [Option.bind_some]
    obtain ⟨⟨hA, hG, hWd, hBt, hT, w0, w1, w2, w3, w4, w5, hS⟩, hP, hI0, hI1⟩ := h
    rcases s_lt6 hi with rfl | rfl | rfl | rfl | rfl | rfl
    · refine ⟨_, _, q_w (q_w σ 2 0 0) 84 2 (σ.1 84 2 &&& (((1 : Int32) <<< ((0 : Int32) &&& 31)) ^^^ (-1))), rfl, ?_, ?_⟩
      · unfold f_X10_leave
        rw [show f_X10_isThere (nI 0) (q_w σ (0 + 2 + (nI 0).toNatClampNeg) 0 0) = 1 from h2]
        rw [if_neg (by decide)]
        refine Eq.trans (congrArg (fun z => Option.bind z _) (Eq.trans (congrArg (f_X10_bits (n + 100)) (show (q_w (q_w σ 2 0 0) 84 2 (σ.1 84 2 &&& (((1 : Int32) <<< ((0 : Int32) &&& 31)) ^^^ (-1)))).1 84 2 = _ from by rw [s_w1, s_u1, hT]; exact hs.1)) (s_bits n _ (rT_rng _ _ _ _ _ _)))) ?_
        rfl
      · exact ⟨⟨hA, hG, hWd, hBt, by rw [hT] at *; exact hs.1, rW_leave w0, w1, w2, w3, w4, w5, hS⟩, hP, hI0, hI1⟩
    · refine ⟨_, _, q_w (q_w σ 3 0 0) 84 2 (σ.1 84 2 &&& (((1 : Int32) <<< ((1 : Int32) &&& 31)) ^^^ (-1))), rfl, ?_, ?_⟩
      · unfold f_X10_leave
        rw [show f_X10_isThere (nI 1) (q_w σ (0 + 2 + (nI 1).toNatClampNeg) 0 0) = 1 from h2]
        rw [if_neg (by decide)]
        refine Eq.trans (congrArg (fun z => Option.bind z _) (Eq.trans (congrArg (f_X10_bits (n + 100)) (show (q_w (q_w σ 3 0 0) 84 2 (σ.1 84 2 &&& (((1 : Int32) <<< ((1 : Int32) &&& 31)) ^^^ (-1)))).1 84 2 = _ from by rw [s_w1, s_u1, hT]; exact hs.2.1)) (s_bits n _ (rT_rng _ _ _ _ _ _)))) ?_
        rfl
      · exact ⟨⟨hA, hG, hWd, hBt, by rw [hT] at *; exact hs.2.1, w0, rW_leave w1, w2, w3, w4, w5, hS⟩, hP, hI0, hI1⟩
    · refine ⟨_, _, q_w (q_w σ 4 0 0) 84 2 (σ.1 84 2 &&& (((1 : Int32) <<< ((2 : Int32) &&& 31)) ^^^ (-1))), rfl, ?_, ?_⟩
      · unfold f_X10_leave
        rw [show f_X10_isThere (nI 2) (q_w σ (0 + 2 + (nI 2).toNatClampNeg) 0 0) = 1 from h2]
        rw [if_neg (by decide)]
        refine Eq.trans (congrArg (fun z => Option.bind z _) (Eq.trans (congrArg (f_X10_bits (n + 100)) (show (q_w (q_w σ 4 0 0) 84 2 (σ.1 84 2 &&& (((1 : Int32) <<< ((2 : Int32) &&& 31)) ^^^ (-1)))).1 84 2 = _ from by rw [s_w1, s_u1, hT]; exact hs.2.2.1)) (s_bits n _ (rT_rng _ _ _ _ _ _)))) ?_
        rfl
      · exact ⟨⟨hA, hG, hWd, hBt, by rw [hT] at *; exact hs.2.2.1, w0, w1, rW_leave w2, w3, w4, w5, hS⟩, hP, hI0, hI1⟩
    · refine ⟨_, _, q_w (q_w σ 5 0 0) 84 2 (σ.1 84 2 &&& (((1 : Int32) <<< ((3 : Int32) &&& 31)) ^^^ (-1))), rfl, ?_, ?_⟩
      · unfold f_X10_leave
        rw [show f_X10_isThere (nI 3) (q_w σ (0 + 2 + (nI 3).toNatClampNeg) 0 0) = 1 from h2]
        rw [if_neg (by decide)]
        refine Eq.trans (congrArg (fun z => Option.bind z _) (Eq.trans (congrArg (f_X10_bits (n + 100)) (show (q_w (q_w σ 5 0 0) 84 2 (σ.1 84 2 &&& (((1 : Int32) <<< ((3 : Int32) &&& 31)) ^^^ (-1)))).1 84 2 = _ from by rw [s_w1, s_u1, hT]; exact hs.2.2.2.1)) (s_bits n _ (rT_rng _ _ _ _ _ _)))) ?_
        rfl
      · exact ⟨⟨hA, hG, hWd, hBt, by rw [hT] at *; exact hs.2.2.2.1, w0, w1, w2, rW_leave w3, w4, w5, hS⟩, hP, hI0, hI1⟩
    · refine ⟨_, _, q_w (q_w σ 6 0 0) 84 2 (σ.1 84 2 &&& (((1 : Int32) <<< ((4 : Int32) &&& 31)) ^^^ (-1))), rfl, ?_, ?_⟩
      · unfold f_X10_leave
        rw [show f_X10_isThere (nI 4) (q_w σ (0 + 2 + (nI 4).toNatClampNeg) 0 0) = 1 from h2]
        rw [if_neg (by decide)]
        refine Eq.trans (congrArg (fun z => Option.bind z _) (Eq.trans (congrArg (f_X10_bits (n + 100)) (show (q_w (q_w σ 6 0 0) 84 2 (σ.1 84 2 &&& (((1 : Int32) <<< ((4 : Int32) &&& 31)) ^^^ (-1)))).1 84 2 = _ from by rw [s_w1, s_u1, hT]; exact hs.2.2.2.2.1)) (s_bits n _ (rT_rng _ _ _ _ _ _)))) ?_
        rfl
      · exact ⟨⟨hA, hG, hWd, hBt, by rw [hT] at *; exact hs.2.2.2.2.1, w0, w1, w2, w3, rW_leave w4, w5, hS⟩, hP, hI0, hI1⟩
    · refine ⟨_, _, q_w (q_w σ 7 0 0) 84 2 (σ.1 84 2 &&& (((1 : Int32) <<< ((5 : Int32) &&& 31)) ^^^ (-1))), rfl, ?_, ?_⟩
      · unfold f_X10_leave
        rw [show f_X10_isThere (nI 5) (q_w σ (0 + 2 + (nI 5).toNatClampNeg) 0 0) = 1 from h2]
        rw [if_neg (by decide)]
        refine Eq.trans (congrArg (fun z => Option.bind z _) (Eq.trans (congrArg (f_X10_bits (n + 100)) (show (q_w (q_w σ 7 0 0) 84 2 (σ.1 84 2 &&& (((1 : Int32) <<< ((5 : Int32) &&& 31)) ^^^ (-1)))).1 84 2 = _ from by rw [s_w1, s_u1, hT]; exact hs.2.2.2.2.2)) (s_bits n _ (rT_rng _ _ _ _ _ _)))) ?_
        rfl
      · exact ⟨⟨hA, hG, hWd, hBt, by rw [hT] at *; exact hs.2.2.2.2.2, w0, w1, w2, w3, w4, rW_leave w5, hS⟩, hP, hI0, hI1⟩
