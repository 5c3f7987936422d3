/-! the store: reading behind writing -/
theorem s_w1 (σ : q_S) (p k : Nat) (v : Int32) : (q_w σ p k v).1 p = upd (σ.1 p) k v := if_pos rfl
theorem s_wn (σ : q_S) (p k : Nat) (v : Int32) {p' : Nat} (h : p' ≠ p) : (q_w σ p k v).1 p' = σ.1 p' := if_neg h
theorem s_w2 (σ : q_S) (p k : Nat) (v : Int32) : (q_w σ p k v).2 = σ.2 := rfl
theorem s_u1 (f : Nat → Int32) (k : Nat) (v : Int32) : upd f k v k = v := if_pos rfl
theorem s_un (f : Nat → Int32) (k : Nat) (v : Int32) {j : Nat} (h : j ≠ k) : upd f k v j = f j := if_neg h
/-- a place filled, from i on to n -/
def s_fill (σ : q_S) (a i n : Nat) (v : Int32) : q_S := (fun p => if p = a then (fun k => if i ≤ k ∧ k < n then v else σ.1 a k) else σ.1 p, σ.2)
theorem s_ext {σ τ : q_S} (h1 : ∀ p k, σ.1 p k = τ.1 p k) (h2 : σ.2 = τ.2) : σ = τ := Prod.ext (funext fun p => funext fun k => h1 p k) h2
theorem s_fill_loop (N a n : Nat) (v : Int32) (hn : n < 2 ^ 31) : ∀ (d i m : Nat) (σ : q_S), i + d = n → d < m → f_J7_fill_53178_5 N a n v (Int32.ofNat n) m (nI i) σ = some (s_fill σ a i n v) := by
  intro d
  induction d with
  | zero =>
    intro i m σ h1 h2
    obtain ⟨m, rfl⟩ : ∃ m', m = m' + 1 := ⟨m - 1, by omega⟩
    have e : i = n := by omega
    subst e
    unfold f_J7_fill_53178_5
    rw [if_pos (show Int32.ofNat i ≤ nI i from nI_le (Nat.le_refl _) hn)]
    congr 1
    refine s_ext (fun p k => ?_) rfl
    show σ.1 p k = (if p = a then (fun k => if i ≤ k ∧ k < i then v else σ.1 a k) else σ.1 p) k
    by_cases hp : p = a
    · rw [if_pos hp, if_neg (by omega), hp]
    · rw [if_neg hp]
  | succ d ih =>
    intro i m σ h1 h2
    obtain ⟨m, rfl⟩ : ∃ m', m = m' + 1 := ⟨m - 1, by omega⟩
    unfold f_J7_fill_53178_5
    rw [if_neg (show ¬ Int32.ofNat n ≤ nI i from nI_ge (by omega) hn), if_pos (nI_in (show i < n by omega) hn), nI_1, nI_clamp (by omega), ih (i + 1) m _ (by omega) (by omega)]
    congr 1
    refine s_ext (fun p k => ?_) rfl
    show (if p = a then (fun k => if i + 1 ≤ k ∧ k < n then v else (q_w σ a i v).1 a k) else (q_w σ a i v).1 p) k = (if p = a then (fun k => if i ≤ k ∧ k < n then v else σ.1 a k) else σ.1 p) k
    by_cases hp : p = a
    · rw [if_pos hp, if_pos hp]
      show (if i + 1 ≤ k ∧ k < n then v else (q_w σ a i v).1 a k) = if i ≤ k ∧ k < n then v else σ.1 a k
      rw [s_w1]
      by_cases hk : k = i
      · subst hk
        rw [if_neg (by omega), if_pos (by omega), s_u1]
      · rw [s_un _ _ _ hk]
        by_cases hk2 : i + 1 ≤ k ∧ k < n
        · rw [if_pos hk2, if_pos (by omega)]
        · rw [if_neg hk2, if_neg (by omega)]
    · rw [if_neg hp, if_neg hp, s_wn _ _ _ _ hp]
theorem s_fillI (N a n : Nat) (v : Int32) (σ : q_S) (hn : n < 2 ^ 31) (hN : n < N) : f_J7_fill_53178 N a n v σ = some (s_fill σ a 0 n v) := by
  unfold f_J7_fill_53178
  exact s_fill_loop N a n v hn n 0 N σ (by omega) hN
/-! ranges -/
def rng (x : Int32) (m : Nat) : Prop := ∃ n, n < m ∧ x = nI n
theorem rng_nI {n m : Nat} (h : n < m) : rng (nI n) m := ⟨n, h, rfl⟩
theorem rng_mono {x : Int32} {m m' : Nat} (h : rng x m) (hm : m ≤ m') : rng x m' := by
  obtain ⟨n, h1, h2⟩ := h
  exact ⟨n, by omega, h2⟩
theorem rng_toInt {x : Int32} {m : Nat} (h : rng x m) (hm : m < 2 ^ 31) : 0 ≤ x.toInt ∧ x.toInt < m := by
  obtain ⟨n, h1, rfl⟩ := h
  rw [nI_toInt (by omega)]
  omega
theorem rng_of {x : Int32} {m : Nat} (h0 : 0 ≤ x.toInt) (h1 : x.toInt < m) : rng x m := by
  refine ⟨x.toInt.toNat, by omega, ?_⟩
  have h := Int32.toInt_lt x
  apply Int32.toInt_inj.mp
  rw [nI_toInt (by omega)]
  omega
theorem rng_in {x : Int32} {m : Nat} (h : rng x m) (hm : m < 2 ^ 31) : ¬ (x < 0 ∨ m ≤ x.toNatClampNeg) := by
  obtain ⟨n, h1, rfl⟩ := h
  exact nI_in h1 hm
theorem s_wI (x lo hi : Int32) : f_X9_isWithin x lo hi = if lo ≤ x ∧ x ≤ hi then 1 else 0 := by
  unfold f_X9_isWithin
  simp only [Int32.le_iff_toInt_le, Int32.lt_iff_toInt_lt]
  split
  · rw [if_neg (by omega)]
  · split
    · rw [if_neg (by omega)]
    · rw [if_pos (by omega)]
theorem s_wM (x lo hi : Int32) : f_X10_in x lo hi = if lo ≤ x ∧ x ≤ hi then 1 else 0 := by
  unfold f_X10_in
  simp only [Int32.le_iff_toInt_le, Int32.lt_iff_toInt_lt]
  split
  · rw [if_neg (by omega)]
  · split
    · rw [if_neg (by omega)]
    · rw [if_pos (by omega)]
theorem s_rng (x : Int32) (n : Nat) (M : Int32) (hM : M.toInt = n) : (0 ≤ x ∧ x ≤ M) ↔ rng x (n + 1) := by
  have h1 := Int32.toInt_lt x
  constructor
  · intro h
    rw [Int32.le_iff_toInt_le, Int32.le_iff_toInt_le, hM] at h
    have h0 : (0 : Int32).toInt = 0 := rfl
    exact rng_of (by omega) (by omega)
  · intro h
    obtain ⟨j, hj, rfl⟩ := h
    have hM2 := Int32.toInt_lt M
    rw [Int32.le_iff_toInt_le, Int32.le_iff_toInt_le, hM, nI_toInt (by omega)]
    have h0 : (0 : Int32).toInt = 0 := rfl
    omega
