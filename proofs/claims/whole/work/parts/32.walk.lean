/-! who is there: bits and counts -/
theorem s_sh6 : ∀ i, i < 6 → (1 : Int32) <<< (nI i &&& 31) = nI (2 ^ i) := by decide +kernel
theorem s_or_rng {a b : Int32} {n : Nat} (ha : rng a (2 ^ n)) (hb : rng b (2 ^ n)) : rng (a ||| b) (2 ^ n) := by
  obtain ⟨x, hx, rfl⟩ := ha
  obtain ⟨y, hy, rfl⟩ := hb
  refine ⟨x ||| y, Nat.or_lt_two_pow hx hy, ?_⟩
  apply Int32.toBitVec_inj.mp
  show BitVec.ofNat 32 x ||| BitVec.ofNat 32 y = BitVec.ofNat 32 (x ||| y)
  apply BitVec.eq_of_toNat_eq
  simp [Nat.or_mod_two_pow]
theorem rT_rng (a b c d e f : Int32) : rng (rT a b c d e f) 64 := by
  have h0 : rng (0 : Int32) (2 ^ 6) := ⟨0, by decide, rfl⟩
  have hi : ∀ (z : Int32) (v : Int32), rng v (2 ^ 6) → rng (if z = 0 then 0 else v) (2 ^ 6) := by
    intro z v hv
    split
    · exact h0
    · exact hv
  exact s_or_rng (s_or_rng (s_or_rng (s_or_rng (s_or_rng (s_or_rng h0 (hi _ _ ⟨1, by decide, rfl⟩)) (hi _ _ ⟨2, by decide, rfl⟩)) (hi _ _ ⟨4, by decide, rfl⟩)) (hi _ _ ⟨8, by decide, rfl⟩)) (hi _ _ ⟨16, by decide, rfl⟩)) (hi _ _ ⟨32, by decide, rfl⟩)
theorem s_tb_step (N p0 : Nat) (σ : q_S) (n : Nat) (x : Int32) (i : Nat) (hi : i < 6) : f_X3_thereBits_4 N p0 σ (n + 1) x (nI i) = f_X3_thereBits_4 N p0 σ n (x ||| (if σ.1 (p0 + 2 + i) 0 = 0 then 0 else nI (2 ^ i))) (nI (i + 1)) := by
  rw [f_X3_thereBits_4, if_neg (show ¬ (6 : Int32) ≤ nI i from nI_ge hi (by decide)), if_pos (nI_in hi (by decide)), nI_clamp (by omega), s_sh6 i hi, nI_1]
  split <;> rfl
theorem s_tb (n p0 : Nat) (σ : q_S) : f_X3_thereBits (n + 100) p0 σ = some (rT (σ.1 (p0 + 2) 0) (σ.1 (p0 + 3) 0) (σ.1 (p0 + 4) 0) (σ.1 (p0 + 5) 0) (σ.1 (p0 + 6) 0) (σ.1 (p0 + 7) 0)) := by
  unfold f_X3_thereBits
  rw [show f_X3_thereBits_4 (n + 100) p0 σ (n + 100) 0 0 = f_X3_thereBits_4 (n + 100) p0 σ (n + 99 + 1) 0 (nI 0) from rfl, s_tb_step _ _ _ _ _ 0 (by decide), show n + 99 = n + 98 + 1 from rfl, s_tb_step _ _ _ _ _ 1 (by decide), show n + 98 = n + 97 + 1 from rfl, s_tb_step _ _ _ _ _ 2 (by decide), show n + 97 = n + 96 + 1 from rfl, s_tb_step _ _ _ _ _ 3 (by decide), show n + 96 = n + 95 + 1 from rfl, s_tb_step _ _ _ _ _ 4 (by decide), show n + 95 = n + 94 + 1 from rfl, s_tb_step _ _ _ _ _ 5 (by decide), show n + 94 = n + 93 + 1 from rfl, f_X3_thereBits_4, if_pos (show (6 : Int32) ≤ nI 6 by decide)]
  rfl
theorem s_bits (n : Nat) (x : Int32) (hx : rng x 64) : f_X10_bits (n + 100) x = some (f_J6_bitCount_0f7a4 x) := by
  have e : f_X10_bits (n + 100) x = some ((((((x &&& 1) + (x >>> ((1 : Int32) &&& 31) &&& 1)) + (x >>> ((2 : Int32) &&& 31) &&& 1)) + (x >>> ((3 : Int32) &&& 31) &&& 1)) + (x >>> ((4 : Int32) &&& 31) &&& 1)) + (x >>> ((5 : Int32) &&& 31) &&& 1)) := by
    simp [f_X10_bits, f_X10_bits_4]
  rw [e]
  congr 1
  obtain ⟨k, hk, rfl⟩ := hx
  have h : ∀ k : Fin 64, (((((nI k.val &&& 1) + (nI k.val >>> ((1 : Int32) &&& 31) &&& 1)) + (nI k.val >>> ((2 : Int32) &&& 31) &&& 1)) + (nI k.val >>> ((3 : Int32) &&& 31) &&& 1)) + (nI k.val >>> ((4 : Int32) &&& 31) &&& 1)) + (nI k.val >>> ((5 : Int32) &&& 31) &&& 1) = f_J6_bitCount_0f7a4 (nI k.val) := by decide +kernel
  exact h ⟨k, hk⟩
/-- is walker i there: the reference's look at the bits -/
theorem s_has (a b c d e f : Int32) (ha : a = 0 ∨ a = 1) (hb : b = 0 ∨ b = 1) (hc : c = 0 ∨ c = 1) (hd : d = 0 ∨ d = 1) (he : e = 0 ∨ e = 1) (hf : f = 0 ∨ f = 1) :
    f_X10_has (rT a b c d e f) 0 = a ∧ f_X10_has (rT a b c d e f) 1 = b ∧ f_X10_has (rT a b c d e f) 2 = c ∧ f_X10_has (rT a b c d e f) 3 = d ∧ f_X10_has (rT a b c d e f) 4 = e ∧ f_X10_has (rT a b c d e f) 5 = f := by
  rcases ha with rfl | rfl <;> rcases hb with rfl | rfl <;> rcases hc with rfl | rfl <;> rcases hd with rfl | rfl <;> rcases he with rfl | rfl <;> rcases hf with rfl | rfl <;> decide +kernel
/-- who is there, set and unset -/
theorem s_set (a b c d e f : Int32) (ha : a = 0 ∨ a = 1) (hb : b = 0 ∨ b = 1) (hc : c = 0 ∨ c = 1) (hd : d = 0 ∨ d = 1) (he : e = 0 ∨ e = 1) (hf : f = 0 ∨ f = 1) :
    (rT a b c d e f ||| ((1 : Int32) <<< ((0 : Int32) &&& 31)) = rT 1 b c d e f ∧ rT a b c d e f ||| ((1 : Int32) <<< ((1 : Int32) &&& 31)) = rT a 1 c d e f ∧ rT a b c d e f ||| ((1 : Int32) <<< ((2 : Int32) &&& 31)) = rT a b 1 d e f ∧ rT a b c d e f ||| ((1 : Int32) <<< ((3 : Int32) &&& 31)) = rT a b c 1 e f ∧ rT a b c d e f ||| ((1 : Int32) <<< ((4 : Int32) &&& 31)) = rT a b c d 1 f ∧ rT a b c d e f ||| ((1 : Int32) <<< ((5 : Int32) &&& 31)) = rT a b c d e 1) ∧
    (rT a b c d e f &&& (((1 : Int32) <<< ((0 : Int32) &&& 31)) ^^^ (-1)) = rT 0 b c d e f ∧ rT a b c d e f &&& (((1 : Int32) <<< ((1 : Int32) &&& 31)) ^^^ (-1)) = rT a 0 c d e f ∧ rT a b c d e f &&& (((1 : Int32) <<< ((2 : Int32) &&& 31)) ^^^ (-1)) = rT a b 0 d e f ∧ rT a b c d e f &&& (((1 : Int32) <<< ((3 : Int32) &&& 31)) ^^^ (-1)) = rT a b c 0 e f ∧ rT a b c d e f &&& (((1 : Int32) <<< ((4 : Int32) &&& 31)) ^^^ (-1)) = rT a b c d 0 f ∧ rT a b c d e f &&& (((1 : Int32) <<< ((5 : Int32) &&& 31)) ^^^ (-1)) = rT a b c d e 0) := by
  rcases ha with rfl | rfl <;> rcases hb with rfl | rfl <;> rcases hc with rfl | rfl <;> rcases hd with rfl | rfl <;> rcases he with rfl | rfl <;> rcases hf with rfl | rfl <;> decide +kernel
theorem s_six {x : Int32} (h : rng x 6) : x = 0 ∨ x = 1 ∨ x = 2 ∨ x = 3 ∨ x = 4 ∨ x = 5 := by
  obtain ⟨n, hn, rfl⟩ := h
  have h : n = 0 ∨ n = 1 ∨ n = 2 ∨ n = 3 ∨ n = 4 ∨ n = 5 := by omega
  rcases h with rfl | rfl | rfl | rfl | rfl | rfl
  · exact Or.inl rfl
  · exact Or.inr (Or.inl rfl)
  · exact Or.inr (Or.inr (Or.inl rfl))
  · exact Or.inr (Or.inr (Or.inr (Or.inl rfl)))
  · exact Or.inr (Or.inr (Or.inr (Or.inr (Or.inl rfl))))
  · exact Or.inr (Or.inr (Or.inr (Or.inr (Or.inr rfl))))
/-- a walker told anew -/
theorem rW_new {w u B : Nat → Int32} {la c l : Int32} {i : Nat} {w' u' B' : Nat → Int32} (h0 : w' 0 = 1) (h1 : w' 1 = l) (h2 : w' 2 = 0) (h4 : w' 4 = 0 ∨ w' 4 = 1) (hl : rng l 6) (hc : rng c 20) (hu : ∀ k, k < 6 → u' k = c) (hB : B' (36 + i) = -6) (hBk : ∀ k, k < 6 → B' (6 * i + k) = c) : rW w' u' B' l i :=
  ⟨Or.inr h0, Or.inl h2, h4, h1.symm, by rw [h1]; exact hl, fun _ => hB, fun h => by rw [h2] at h; exact absurd h (by decide), by have := hBk 0 (by decide); rw [hu 0 (by decide)]; exact this, fun _ k hk => by rw [hBk k hk, hu k hk], fun k hk => by rw [hu k hk]; exact hc, fun k hk => Or.inl (by rw [hu k (by omega), hu (k + 1) (by omega)])⟩
/-- beginAt, arrive -/
theorem s_beginAt (n o : Nat) (c : Int32) (σ : q_S) : f_X8_beginAt (n + 100) o c σ = some (s_fill (q_w σ o 2 0) (o + 6) 0 6 c) := by
  unfold f_X8_beginAt
  rw [s_fillI _ _ _ _ _ (by decide) (by omega)]
  rfl
theorem s_arrive (n o : Nat) (c l : Int32) (σ : q_S) : f_X8_arrive (n + 100) o c l σ = some (s_fill (q_w (q_w (q_w σ o 0 1) o 1 l) o 2 0) (o + 6) 0 6 c) := by
  unfold f_X8_arrive
  rw [s_beginAt]
  rfl
def s_mw (σ : q_S) (i : Nat) (c : Int32) : q_S := q_w (q_w (q_w (q_w (q_w (q_w (q_w σ 85 (6 * i) c) 85 (6 * i + 1) c) 85 (6 * i + 2) c) 85 (6 * i + 3) c) 85 (6 * i + 4) c) 85 (6 * i + 5) c) 85 (36 + i) (-6)
theorem s_mwalk (n : Nat) (i : Nat) (hi : i < 6) (c : Int32) (σ : q_S) : f_X10_walker_52 (n + 100) (nI i) c (n + 100) 0 σ = (f_X10_bits (n + 100) (σ.1 84 2)).bind fun z => some (z, s_mw σ i c) := by
  have h : i = 0 ∨ i = 1 ∨ i = 2 ∨ i = 3 ∨ i = 4 ∨ i = 5 := by omega
  rcases h with rfl | rfl | rfl | rfl | rfl | rfl <;> simp [f_X10_walker_52, nI] <;> rfl
