/-! THE RELATION between the class's places and the reference's -/
/-- a walker: his fields w, where he was u; the reference's row B, his lateness la; his number i -/
def rW (w u B : Nat → Int32) (la : Int32) (i : Nat) : Prop :=
  (w 0 = 0 ∨ w 0 = 1) ∧ (w 2 = 0 ∨ w 2 = 1) ∧ (w 4 = 0 ∨ w 4 = 1) ∧ la = w 1 ∧ rng (w 1) 6 ∧ (w 2 = 0 → B (36 + i) = -6) ∧ (w 2 = 1 → B (36 + i) = w 3 ∧ B (42 + i) = w 4 ∧ rng (w 3) 20) ∧
  B (6 * i) = u 0 ∧ (w 0 = 1 → ∀ k, k < 6 → B (6 * i + k) = u k) ∧ (∀ k, k < 6 → rng (u k) 20) ∧ (∀ k, k < 5 → u k = u (k + 1) ∨ u k = u (k + 1) + 1 ∨ u k = u (k + 1) + (-1))
/-- who is there, as bits -/
def rT (a b c d e f : Int32) : Int32 := ((((((0 ||| (if a = 0 then 0 else 1)) ||| (if b = 0 then 0 else 2)) ||| (if c = 0 then 0 else 4)) ||| (if d = 0 then 0 else 8)) ||| (if e = 0 then 0 else 16)) ||| (if f = 0 then 0 else 32))
/-- sights: the count's cell, beats, cells; the reference's row and count -/
def rS (s b c sg : Nat → Int32) (sc : Int32) : Prop := s 2 = sc ∧ rng sc 9 ∧ (∀ j, j < 8 → b j = sg (2 * j) ∧ c j = sg (2 * j + 1) ∧ rng (b j) 61 ∧ rng (c j) 20)
/-- a whole Reach at the place r against a row B, lateness lt, sights sg, and four numbers -/
def rB (σ : q_S) (r : Nat) (B lt sg : Nat → Int32) (th ar gp sc : Int32) : Prop :=
  (σ.1 r 0 = ar ∧ rng ar 1048576) ∧ (σ.1 r 1 = gp ∧ rng gp 20) ∧ (σ.1 r 2 = B 48 ∧ (B 48 = 0 ∨ B 48 = 1)) ∧ (σ.1 r 3 = B 49 ∧ rng (B 49) 1000) ∧
  th = rT (σ.1 (r + 2) 0) (σ.1 (r + 3) 0) (σ.1 (r + 4) 0) (σ.1 (r + 5) 0) (σ.1 (r + 6) 0) (σ.1 (r + 7) 0) ∧
  rW (σ.1 (r + 2)) (σ.1 (r + 8)) B (lt 0) 0 ∧ rW (σ.1 (r + 3)) (σ.1 (r + 9)) B (lt 1) 1 ∧ rW (σ.1 (r + 4)) (σ.1 (r + 10)) B (lt 2) 2 ∧ rW (σ.1 (r + 5)) (σ.1 (r + 11)) B (lt 3) 3 ∧ rW (σ.1 (r + 6)) (σ.1 (r + 12)) B (lt 4) 4 ∧ rW (σ.1 (r + 7)) (σ.1 (r + 13)) B (lt 5) 5 ∧
  rS (σ.1 (r + 14)) (σ.1 (r + 15)) (σ.1 (r + 16)) sg sc
/-- the pad -/
def rP (σ : q_S) : Prop := σ.1 69 1 = σ.1 84 8 ∧ rng (σ.1 84 8) 61 ∧ ∀ j, j < 60 → σ.1 70 j = σ.1 89 j ∧ rng (σ.1 70 j) 127
/-- an image -/
def rI (σ : q_S) (n r : Nat) : Prop := σ.1 73 n = σ.1 97 n ∧ (σ.1 97 n = 0 ∨ (σ.1 97 n = 1 ∧ rB σ r (fun k => σ.1 96 (90 * n + k)) (fun k => σ.1 96 (90 * n + 50 + k)) (fun k => σ.1 96 (90 * n + 56 + k)) (σ.1 96 (90 * n + 80)) (σ.1 96 (90 * n + 81)) (σ.1 96 (90 * n + 82)) (σ.1 96 (90 * n + 83))))
def Rel (σ : q_S) : Prop := rB σ 0 (σ.1 85) (σ.1 87) (σ.1 88) (σ.1 84 2) (σ.1 84 4) (σ.1 84 5) (σ.1 84 6) ∧ rP σ ∧ rI σ 0 34 ∧ rI σ 1 51
/-- a step of the law: both answer alike, and the relation holds again -/
def Ok (C M : q_S → Option (Int32 × q_S)) : Prop := ∀ σ, Rel σ → ∃ r σ1 σ2, C σ = some (r, σ1) ∧ M σ1 = some (r, σ2) ∧ Rel σ2
/-- what the relation looks at: places -/
theorem rB_congr {σ τ : q_S} {r : Nat} {B lt sg : Nat → Int32} {th ar gp sc : Int32} (h : ∀ k, k < 17 → τ.1 (r + k) = σ.1 (r + k)) (hr : rB σ r B lt sg th ar gp sc) : rB τ r B lt sg th ar gp sc := by
  have h0 : τ.1 r = σ.1 r := h 0 (by decide)
  unfold rB at *
  rw [h0, h 2 (by decide), h 3 (by decide), h 4 (by decide), h 5 (by decide), h 6 (by decide), h 7 (by decide), h 8 (by decide), h 9 (by decide), h 10 (by decide), h 11 (by decide), h 12 (by decide), h 13 (by decide), h 14 (by decide), h 15 (by decide), h 16 (by decide)]
  exact hr
theorem rI_congr {σ τ : q_S} {n r : Nat} (h : ∀ k, k < 17 → τ.1 (r + k) = σ.1 (r + k)) (h1 : τ.1 73 = σ.1 73) (h2 : τ.1 97 = σ.1 97) (h3 : τ.1 96 = σ.1 96) (hr : rI σ n r) : rI τ n r := by
  unfold rI at *
  rw [h1, h2, h3]
  refine ⟨hr.1, ?_⟩
  rcases hr.2 with h4 | ⟨h4, h5⟩
  · exact Or.inl h4
  · exact Or.inr ⟨h4, rB_congr h h5⟩
theorem rP_congr {σ τ : q_S} (h1 : τ.1 69 = σ.1 69) (h2 : τ.1 70 = σ.1 70) (h3 : τ.1 84 8 = σ.1 84 8) (h4 : τ.1 89 = σ.1 89) (hr : rP σ) : rP τ := by
  unfold rP at *
  rw [h1, h2, h3, h4]
  exact hr
/-- the places that the relation doesn't look at may change -/
theorem Rel_congr {σ τ : q_S} (h : ∀ p, p < 98 → ¬ ((17 ≤ p ∧ p < 34) ∨ (74 ≤ p ∧ p < 84) ∨ p = 71 ∨ p = 84 ∨ p = 86 ∨ (90 ≤ p ∧ p < 96)) → τ.1 p = σ.1 p) (h84 : ∀ k, (k = 2 ∨ k = 4 ∨ k = 5 ∨ k = 6 ∨ k = 8) → τ.1 84 k = σ.1 84 k) (hr : Rel σ) : Rel τ := by
  obtain ⟨a, b, c, d⟩ := hr
  refine ⟨?_, rP_congr (h 69 (by decide) (by decide)) (h 70 (by decide) (by decide)) (h84 8 (by decide)) (h 89 (by decide) (by decide)) b, rI_congr (fun k hk => h _ (by omega) (by omega)) (h 73 (by decide) (by decide)) (h 97 (by decide) (by decide)) (h 96 (by decide) (by decide)) c, rI_congr (fun k hk => h _ (by omega) (by omega)) (h 73 (by decide) (by decide)) (h 97 (by decide) (by decide)) (h 96 (by decide) (by decide)) d⟩
  rw [h84 2 (by decide), h84 4 (by decide), h84 5 (by decide), h84 6 (by decide), h 85 (by decide) (by decide), h 87 (by decide) (by decide), h 88 (by decide) (by decide)]
  exact rB_congr (fun k hk => h _ (by omega) (by omega)) a
/-! gap, arch, wipe, forget -/
theorem o_gap (x : Int32) (σ : q_S) (h : Rel σ) : (f_X9_gap x σ).1 = (f_X10_gap x (f_X9_gap x σ).2).1 ∧ Rel (f_X10_gap x (f_X9_gap x σ).2).2 := by
  obtain ⟨⟨hA, hG, hWd, hBt, hT, w0, w1, w2, w3, w4, w5, hS⟩, hP, hI0, hI1⟩ := h
  unfold f_X9_gap f_X10_gap
  rw [s_wI, s_wM]
  by_cases hx : 0 ≤ x ∧ x ≤ 19
  · rw [if_pos hx]
    simp only [show ¬ ((1 : Int32) = 0) by decide, if_false]
    exact ⟨hG.1, ⟨hA, ⟨rfl, (s_rng x 19 19 rfl).mp hx⟩, hWd, hBt, hT, w0, w1, w2, w3, w4, w5, hS⟩, hP, hI0, hI1⟩
  · rw [if_neg hx]
    simp only [if_true]
    exact ⟨trivial, ⟨hA, hG, hWd, hBt, hT, w0, w1, w2, w3, w4, w5, hS⟩, hP, hI0, hI1⟩
theorem o_wipe (σ : q_S) (h : Rel σ) : (f_X9_wipe σ).1 = (f_X10_wipe (f_X9_wipe σ).2).1 ∧ Rel (f_X10_wipe (f_X9_wipe σ).2).2 := by
  obtain ⟨hB, hP, hI0, hI1⟩ := h
  exact ⟨hP.1, hB, ⟨rfl, ⟨0, by decide, rfl⟩, hP.2.2⟩, hI0, hI1⟩
theorem o_forget (σ : q_S) (h : Rel σ) : (f_X9_forget σ).1 = (f_X10_forget (f_X9_forget σ).2).1 ∧ Rel (f_X10_forget (f_X9_forget σ).2).2 := by
  obtain ⟨⟨hA, hG, hWd, hBt, hT, w0, w1, w2, w3, w4, w5, hS⟩, hP, hI0, hI1⟩ := h
  exact ⟨hS.1, ⟨hA, hG, hWd, hBt, hT, w0, w1, w2, w3, w4, w5, ⟨rfl, ⟨0, by decide, rfl⟩, hS.2.2⟩⟩, hP, hI0, hI1⟩
theorem s_archOn : ∀ (i : Nat), i < 20 → ∀ (a : Nat), a < 1048576 → rng (nI a ||| (1 <<< (nI i &&& 31))) 1048576 ∧ rng (nI a &&& ((1 <<< (nI i &&& 31)) ^^^ (-1))) 1048576 := by
  intro i hi a ha
  have e1 : (1 : Int32) <<< (nI i &&& 31) = nI (2 ^ i) := by
    have : ∀ i : Fin 20, (1 : Int32) <<< (nI i.val &&& 31) = nI (2 ^ i.val) := by decide +kernel
    exact this ⟨i, hi⟩
  have e2 : ((1 : Int32) <<< (nI i &&& 31)) ^^^ (-1) = nI (4294967295 - 2 ^ i) := by
    have : ∀ i : Fin 20, ((1 : Int32) <<< (nI i.val &&& 31)) ^^^ (-1) = nI (4294967295 - 2 ^ i.val) := by decide +kernel
    exact this ⟨i, hi⟩
  have hor : nI a ||| nI (2 ^ i) = nI (a ||| 2 ^ i) := by
    apply Int32.toBitVec_inj.mp
    show BitVec.ofNat 32 a ||| BitVec.ofNat 32 (2 ^ i) = BitVec.ofNat 32 (a ||| 2 ^ i)
    apply BitVec.eq_of_toNat_eq
    simp [Nat.or_mod_two_pow]
  have hand : nI a &&& nI (4294967295 - 2 ^ i) = nI (a &&& (4294967295 - 2 ^ i)) := by
    apply Int32.toBitVec_inj.mp
    show BitVec.ofNat 32 a &&& BitVec.ofNat 32 (4294967295 - 2 ^ i) = BitVec.ofNat 32 (a &&& (4294967295 - 2 ^ i))
    apply BitVec.eq_of_toNat_eq
    simp [Nat.and_mod_two_pow]
  rw [e2, e1, hor, hand]
  have h2 : 2 ^ i < 1048576 := Nat.pow_lt_pow_right (by decide) hi
  exact ⟨⟨_, Nat.or_lt_two_pow (n := 20) ha h2, rfl⟩, ⟨_, Nat.lt_of_le_of_lt Nat.and_le_left ha, rfl⟩⟩
theorem s_clrset (a b : Int32) : (a &&& (b ^^^ (-1))) ||| b = a ||| b := by
  apply Int32.toBitVec_inj.mp
  show (a.toBitVec &&& (b.toBitVec ^^^ (-1 : Int32).toBitVec)) ||| b.toBitVec = a.toBitVec ||| b.toBitVec
  rw [show (-1 : Int32).toBitVec = BitVec.allOnes 32 from by decide]
  apply BitVec.eq_of_getLsbD_eq
  intro i hi
  simp only [BitVec.getLsbD_or, BitVec.getLsbD_and, BitVec.getLsbD_xor, BitVec.getLsbD_allOnes, hi, decide_true]
  cases a.toBitVec.getLsbD i <;> cases b.toBitVec.getLsbD i <;> rfl
theorem s_or0 (a : Int32) : a ||| 0 = a := by
  apply Int32.toBitVec_inj.mp
  show a.toBitVec ||| (0 : Int32).toBitVec = a.toBitVec
  rw [show (0 : Int32).toBitVec = 0#32 from rfl]
  simp
theorem o_arch (x y : Int32) (σ : q_S) (h : Rel σ) : (f_X9_arch x y σ).1 = (f_X10_arch x y (f_X9_arch x y σ).2).1 ∧ Rel (f_X10_arch x y (f_X9_arch x y σ).2).2 := by
  obtain ⟨⟨hA, hG, hWd, hBt, hT, w0, w1, w2, w3, w4, w5, hS⟩, hP, hI0, hI1⟩ := h
  obtain ⟨hA1, a, ha, hA2⟩ := hA
  unfold f_X9_arch f_X10_arch f_X9_isCell f_X10_isCell
  rw [s_wI, s_wM]
  by_cases hx : 0 ≤ x ∧ x ≤ 19
  · rw [if_pos hx]
    obtain ⟨i, hi, hxi⟩ := (s_rng x 19 19 rfl).mp hx
    have hr := s_archOn i hi a ha
    rw [← hA2, ← hxi] at hr
    simp only [show ¬ ((1 : Int32) = 0) by decide, if_false]
    by_cases hy : y = 0
    · simp only [hy, if_true]
      refine ⟨?_, ⟨⟨?_, ?_⟩, hG, hWd, hBt, hT, w0, w1, w2, w3, w4, w5, hS⟩, hP, hI0, hI1⟩
      · show σ.1 0 0 &&& (((1 : Int32) <<< (x &&& 31)) ^^^ (-1)) = (σ.1 84 4 &&& (((1 : Int32) <<< (x &&& 31)) ^^^ (-1))) ||| 0
        rw [s_or0, hA1]
      · show σ.1 0 0 &&& (((1 : Int32) <<< (x &&& 31)) ^^^ (-1)) = (σ.1 84 4 &&& (((1 : Int32) <<< (x &&& 31)) ^^^ (-1))) ||| 0
        rw [s_or0, hA1]
      · show rng ((σ.1 84 4 &&& (((1 : Int32) <<< (x &&& 31)) ^^^ (-1))) ||| 0) 1048576
        rw [s_or0]
        exact hr.2
    · simp only [hy, if_false]
      refine ⟨?_, ⟨⟨?_, ?_⟩, hG, hWd, hBt, hT, w0, w1, w2, w3, w4, w5, hS⟩, hP, hI0, hI1⟩
      · show σ.1 0 0 ||| ((1 : Int32) <<< (x &&& 31)) = (σ.1 84 4 &&& (((1 : Int32) <<< (x &&& 31)) ^^^ (-1))) ||| ((1 : Int32) <<< (x &&& 31))
        rw [s_clrset, hA1]
      · show σ.1 0 0 ||| ((1 : Int32) <<< (x &&& 31)) = (σ.1 84 4 &&& (((1 : Int32) <<< (x &&& 31)) ^^^ (-1))) ||| ((1 : Int32) <<< (x &&& 31))
        rw [s_clrset, hA1]
      · show rng ((σ.1 84 4 &&& (((1 : Int32) <<< (x &&& 31)) ^^^ (-1))) ||| ((1 : Int32) <<< (x &&& 31))) 1048576
        rw [s_clrset]
        exact hr.1
  · rw [if_neg hx]
    simp only [if_true]
    exact ⟨trivial, ⟨⟨hA1, a, ha, hA2⟩, hG, hWd, hBt, hT, w0, w1, w2, w3, w4, w5, hS⟩, hP, hI0, hI1⟩
