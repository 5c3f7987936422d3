/-! calm: sums, and the chances by (longest, run) as a functional -/
def su (f : Nat → Nat) : Nat → Nat
  | 0 => 0
  | n + 1 => su f n + f n
theorem su_congr {f g : Nat → Nat} : ∀ n, (∀ i, i < n → f i = g i) → su f n = su g n := by
  intro n
  induction n with
  | zero => intro _; rfl
  | succ n ih =>
    intro h
    rw [su, su, ih (fun i hi => h i (by omega)), h n (by omega)]
theorem su_ge {f : Nat → Nat} : ∀ n j, j < n → f j ≤ su f n := by
  intro n
  induction n with
  | zero => intro j h; omega
  | succ n ih =>
    intro j h
    rw [su]
    by_cases hj : j = n
    · subst hj
      omega
    · have := ih j (by omega)
      omega
theorem su_zero {f : Nat → Nat} : ∀ n, (∀ i, i < n → f i = 0) → su f n = 0 := by
  intro n
  induction n with
  | zero => intro _; rfl
  | succ n ih =>
    intro h
    rw [su, ih (fun i hi => h i (by omega)), h n (by omega)]
theorem su_one {f : Nat → Nat} (v : Nat) : ∀ n j, j < n → f j = v → (∀ i, i < n → i ≠ j → f i = 0) → su f n = v := by
  intro n
  induction n with
  | zero => intro j h; omega
  | succ n ih =>
    intro j h hj hz
    rw [su]
    by_cases e : j = n
    · subst e
      rw [su_zero j (fun i hi => hz i (by omega) (by omega)), hj, Nat.zero_add]
    · rw [ih j (by omega) hj (fun i hi hne => hz i (by omega) hne), hz n (by omega) (by omega)]
      rfl
/-- one cell grows by v -/
theorem su_inc {f h g : Nat → Nat} (v j : Nat) (h1 : ∀ i, i ≠ j → h i = f i) (h2 : h j = f j + v) : ∀ n, su (fun i => h i * g i) n = su (fun i => f i * g i) n + if j < n then v * g j else 0 := by
  intro n
  induction n with
  | zero => rfl
  | succ n ih =>
    rw [su, su, ih]
    by_cases e : n = j
    · subst e
      rw [if_neg (by omega), if_pos (by omega), h2, Nat.add_mul]
      omega
    · rw [h1 n e]
      by_cases hn : j < n
      · rw [if_pos hn, if_pos (by omega)]
        omega
      · rw [if_neg hn, if_neg (by omega)]
        omega
def mo (l k : Nat) : Nat := if k + 1 ≤ l then l else k + 1
def zZ (t u : Nat) : Nat → (Nat → Nat → Nat) → Nat
  | 0, g => g 0 0
  | n + 1, g => zZ t u n (fun l k => t * g (mo l k) (k + 1) + u * g l 0)
theorem zZ_congr (t u : Nat) : ∀ n (g h : Nat → Nat → Nat), (∀ l k, k ≤ l → l ≤ n → g l k = h l k) → zZ t u n g = zZ t u n h := by
  intro n
  induction n with
  | zero => intro g h e; exact e 0 0 (by omega) (by omega)
  | succ n ih =>
    intro g h e
    apply ih
    intro l k hk hl
    have h1 : k + 1 ≤ mo l k ∧ mo l k ≤ n + 1 := by
      unfold mo
      split <;> omega
    rw [e (mo l k) (k + 1) h1.1 h1.2, e l 0 (by omega) (by omega)]
theorem zZ_add (t u : Nat) : ∀ n (g h : Nat → Nat → Nat), zZ t u n (fun l k => g l k + h l k) = zZ t u n g + zZ t u n h := by
  intro n
  induction n with
  | zero => intro g h; rfl
  | succ n ih =>
    intro g h
    rw [zZ, zZ, zZ, ← ih]
    apply zZ_congr
    intro l k _ _
    rw [Nat.mul_add, Nat.mul_add]
    omega
theorem zZ_mul (t u a : Nat) : ∀ n (g : Nat → Nat → Nat), zZ t u n (fun l k => a * g l k) = a * zZ t u n g := by
  intro n
  induction n with
  | zero => intro g; rfl
  | succ n ih =>
    intro g
    rw [zZ, zZ, ← ih]
    apply zZ_congr
    intro l k _ _
    rw [Nat.mul_add, Nat.mul_left_comm t a, Nat.mul_left_comm u a]
theorem zZ_0 (t u n : Nat) : zZ t u n (fun _ _ => 0) = 0 := by
  have h := zZ_mul t u 0 n (fun _ _ => 0)
  simp only [Nat.zero_mul] at h
  exact h
theorem zZ_su (t u n : Nat) (G : Nat → Nat → Nat → Nat) : ∀ m, zZ t u n (fun l k => su (fun i => G i l k) m) = su (fun i => zZ t u n (G i)) m := by
  intro m
  induction m with
  | zero => exact zZ_0 t u n
  | succ m ih =>
    rw [su, ← ih, ← zZ_add]
    rfl
theorem zZ_1 (t u : Nat) (h : t + u = 10) : ∀ n, zZ t u n (fun _ _ => 1) = 10 ^ n := by
  intro n
  induction n with
  | zero => rfl
  | succ n ih =>
    rw [zZ, Nat.pow_succ, ← ih, Nat.mul_comm (zZ t u n fun _ _ => 1) 10, ← zZ_mul]
    apply zZ_congr
    intro l k _ _
    show t * 1 + u * 1 = 10 * 1
    omega
/-- longest below r, and k calm beats at the end -/
def zE (r k0 : Nat) : Nat → Nat → Nat := fun l k => if l < r ∧ k = k0 then 1 else 0
def zL (r : Nat) : Nat → Nat → Nat := fun l _ => if l < r then 1 else 0
def zG (r : Nat) : Nat → Nat → Nat := fun l _ => if l < r then 0 else 1
theorem zE_0 (t u r : Nat) (hr : 0 < r) (k0 : Nat) : zZ t u 0 (zE r k0) = if k0 = 0 then 1 else 0 := by
  show (if 0 < r ∧ 0 = k0 then 1 else 0) = _
  by_cases h : k0 = 0
  · rw [if_pos h, if_pos ⟨hr, h.symm⟩]
  · rw [if_neg h, if_neg (fun q => h q.2.symm)]
theorem zE_s (t u r n k0 : Nat) (hk : k0 + 1 < r) : zZ t u (n + 1) (zE r (k0 + 1)) = zZ t u n (zE r k0) * t := by
  rw [zZ, Nat.mul_comm, ← zZ_mul]
  apply zZ_congr
  intro l k _ _
  unfold zE mo
  rw [if_neg (show ¬ (l < r ∧ 0 = k0 + 1) by omega)]
  by_cases h : l < r ∧ k = k0
  · rw [if_pos h, if_pos]
    · rfl
    · refine ⟨?_, by omega⟩
      split <;> omega
  · rw [if_neg h, if_neg]
    · rfl
    · intro q
      apply h
      refine ⟨?_, by omega⟩
      have := q.1
      split at this <;> omega
theorem zL_E (t u r n : Nat) : zZ t u n (zL r) = su (fun k => zZ t u n (zE r k)) r := by
  rw [← zZ_su]
  apply zZ_congr
  intro l k hk _
  unfold zL zE
  by_cases h : l < r
  · rw [if_pos h]
    symm
    apply su_one 1 r k (by omega)
    · rw [if_pos ⟨h, rfl⟩]
    · intro i hi hne
      rw [if_neg (by omega)]
  · rw [if_neg h]
    symm
    apply su_zero
    intro i hi
    rw [if_neg (by omega)]
theorem zE_z (t u r n : Nat) : zZ t u (n + 1) (zE r 0) = zZ t u n (zL r) * u := by
  rw [zZ, Nat.mul_comm, ← zZ_mul]
  apply zZ_congr
  intro l k _ _
  unfold zE zL
  rw [if_neg (show ¬ (mo l k < r ∧ k + 1 = 0) by omega)]
  by_cases h : l < r
  · rw [if_pos h, if_pos ⟨h, rfl⟩]
    omega
  · rw [if_neg h, if_neg (fun q => h q.1)]
    omega
theorem zL_G (t u r n : Nat) (h : t + u = 10) : zZ t u n (zL r) + zZ t u n (zG r) = 10 ^ n := by
  rw [← zZ_1 t u h n, ← zZ_add]
  apply zZ_congr
  intro l k _ _
  unfold zL zG
  split <;> rfl
theorem zG_le (t u r n : Nat) (h : t + u = 10) : zZ t u n (zG r) ≤ 10 ^ n := by
  have := zL_G t u r n h
  omega
/-- the sum of the longest rows -/
theorem zG_su (t u n : Nat) : zZ t u n (fun l _ => l) = su (fun i => zZ t u n (zG (i + 1))) n := by
  rw [← zZ_su]
  apply zZ_congr
  intro l k _ hl
  unfold zG
  have h : ∀ m, su (fun i => if l < i + 1 then 0 else 1) m = if m ≤ l then m else l := by
    intro m
    induction m with
    | zero => exact (if_pos (Nat.zero_le _)).symm
    | succ m ih =>
      rw [su, ih]
      by_cases h1 : m + 1 ≤ l
      · rw [if_pos h1, if_pos (by omega), if_neg (by omega)]
      · rw [if_neg h1, if_pos (show l < m + 1 by omega)]
        split <;> omega
  rw [h n]
  split <;> omega
theorem zM_le (t u n : Nat) (h : t + u = 10) : zZ t u n (fun l _ => l) ≤ n * 10 ^ n := by
  rw [zG_su]
  have hs : ∀ m, su (fun i => zZ t u n (zG (i + 1))) m ≤ m * 10 ^ n := by
    intro m
    induction m with
    | zero => exact Nat.zero_le _
    | succ m ih =>
      rw [su, Nat.succ_mul]
      have := zG_le t u (m + 1) n h
      omega
  exact hs n
/-! long cells -/
theorem l_w1 (σ : q_S) (p k : Nat) (v : Int64) : (q_wl σ p k v).2 p = vp_updL (σ.2 p) k v := if_pos rfl
theorem l_wn (σ : q_S) (p k : Nat) (v : Int64) {p' : Nat} (h : p' ≠ p) : (q_wl σ p k v).2 p' = σ.2 p' := if_neg h
theorem l_w0 (σ : q_S) (p k : Nat) (v : Int64) : (q_wl σ p k v).1 = σ.1 := rfl
theorem l_fill (N a n : Nat) (v : Int64) (hn : n < 2 ^ 31) (σ0 : q_S) : ∀ (d i m : Nat) (σ : q_S), i + d = n → d < m → σ.1 = σ0.1 → (∀ j, j < i → σ.2 a j = v) → ∃ σ', f_J7_fill_d0a16_6 N a n v (Int32.ofNat n) m (nI i) σ = some σ' ∧ σ'.1 = σ0.1 ∧ ∀ j, j < n → σ'.2 a j = v := by
  intro d
  induction d with
  | zero =>
    intro i m σ h1 h2 h3 h4
    obtain ⟨m, rfl⟩ : ∃ m', m = m' + 1 := ⟨m - 1, by omega⟩
    have e : i = n := by omega
    subst e
    exact ⟨σ, by rw [f_J7_fill_d0a16_6, if_pos (show Int32.ofNat i ≤ nI i from nI_le (Nat.le_refl _) hn)], h3, h4⟩
  | succ d ih =>
    intro i m σ h1 h2 h3 h4
    obtain ⟨m, rfl⟩ : ∃ m', m = m' + 1 := ⟨m - 1, by omega⟩
    rw [f_J7_fill_d0a16_6, if_neg (show ¬ Int32.ofNat n ≤ nI i from nI_ge (by omega) hn), if_pos (nI_in (show i < n by omega) hn), nI_1, nI_clamp (by omega)]
    refine ih (i + 1) m _ (by omega) (by omega) h3 (fun j hj => ?_)
    rw [l_w1]
    by_cases hji : j = i
    · rw [hji, pk_uLs]
    · rw [pk_uLn hji]
      exact h4 j (by omega)
/-! the class's side -/
theorem c_ten (N n : Nat) (hn : n < 2 ^ 31) : ∀ (d i m : Nat), i + d = n → d < m → f_X1_tenTo_4 N (nI n) m (lN (10 ^ i)) (nI i) = some (lN (10 ^ n)) := by
  intro d
  induction d with
  | zero =>
    intro i m h1 h2
    obtain ⟨m, rfl⟩ : ∃ m', m = m' + 1 := ⟨m - 1, by omega⟩
    have e : i = n := by omega
    subst e
    rw [f_X1_tenTo_4, if_pos (nI_le (Nat.le_refl _) hn)]
  | succ d ih =>
    intro i m h1 h2
    obtain ⟨m, rfl⟩ : ∃ m', m = m' + 1 := ⟨m - 1, by omega⟩
    rw [f_X1_tenTo_4, if_neg (nI_ge (show i < n by omega) hn), nI_1, show lN (10 ^ i) * 10 = lN (10 ^ (i + 1)) from (lN_mul (10 ^ i) 10).trans (by rw [Nat.pow_succ])]
    exact ih (i + 1) m (by omega) (by omega)
theorem c_sum (N r : Nat) (hr : r ≤ 15) (σ : q_S) (e : Nat → Nat) (he : ∀ k, k < r → σ.2 83 k = lN (e k)) : ∀ (d k m : Nat), k + d = r → d < m → f_X1_sumOfEnds_5 N (nI r) σ m (lN (su e k)) (nI k) = some (lN (su e r)) := by
  intro d
  induction d with
  | zero =>
    intro k m h1 h2
    obtain ⟨m, rfl⟩ : ∃ m', m = m' + 1 := ⟨m - 1, by omega⟩
    have e : k = r := by omega
    subst e
    rw [f_X1_sumOfEnds_5, if_pos (nI_le (Nat.le_refl _) (by omega))]
  | succ d ih =>
    intro k m h1 h2
    obtain ⟨m, rfl⟩ : ∃ m', m = m' + 1 := ⟨m - 1, by omega⟩
    rw [f_X1_sumOfEnds_5, if_neg (nI_ge (show k < r by omega) (by omega)), if_neg (show ¬ (15 : Int32) < nI k from nI_nlt (a := 15) (by omega) (by decide)), if_pos (nI_in (show k < 16 by omega) (by decide)), nI_clamp (by omega), nI_1, he k (by omega), lN_add]
    exact ih (k + 1) m (by omega) (by omega)
theorem c_w49 (N : Nat) (k31 : Int32 → q_S → Option (Int64 × q_S)) (x1 : Int32) (t r : Nat) (ht : t ≤ 10) (hr0 : 0 < r) (hr : r ≤ 15) (b v : Nat) (σ0 : q_S) (e : Nat → Nat) : ∀ (j m : Nat) (σ : q_S), j < r → j < m → σ.1 = σ0.1 → (∀ i, i < r → σ.2 83 i = lN (if j < i then e (i - 1) * t else e i)) → ∃ σ', f_X1_withoutRow_49 N k31 x1 (nI t) (nI r) (nI b) (lN v) m (nI j) σ = k31 (nI (b + 1)) σ' ∧ σ'.1 = σ0.1 ∧ σ'.2 83 0 = lN (v * (10 - t)) ∧ ∀ i, i + 1 < r → σ'.2 83 (i + 1) = lN (e i * t) := by
  intro j
  induction j with
  | zero =>
    intro m σ h1 h2 h3 h4
    obtain ⟨m, rfl⟩ : ∃ m', m = m' + 1 := ⟨m - 1, by omega⟩
    rw [f_X1_withoutRow_49, if_pos (show nI 0 ≤ 0 by decide), nI_1, show (10 : Int32) - nI t = nI (10 - t) from pk_sub (a := 10) ht, nI_l (by omega), lN_mul, show (0 : Int32).toNatClampNeg = 0 from rfl]
    refine ⟨_, rfl, h3, ?_, fun i hi => ?_⟩
    · rw [l_w1, pk_uLs]
    · rw [l_w1, pk_uLn (by omega), h4 (i + 1) hi, if_pos (by omega), Nat.add_sub_cancel]
  | succ j ih =>
    intro m σ h1 h2 h3 h4
    obtain ⟨m, rfl⟩ : ∃ m', m = m' + 1 := ⟨m - 1, by omega⟩
    rw [f_X1_withoutRow_49, if_neg (nI_nle (by omega) (by omega)), nI_pred, pk_m1, if_pos (nI_in (show j < 16 by omega) (by decide)), if_pos (nI_in (show j + 1 < 16 by omega) (by decide)), nI_clamp (show j < _ by omega), nI_clamp (show j + 1 < _ by omega), nI_l (by omega), h4 j (by omega), if_neg (by omega), lN_mul]
    refine ih m _ (by omega) (by omega) h3 (fun i hi => ?_)
    rw [l_w1]
    by_cases hij : i = j + 1
    · subst hij
      rw [pk_uLs, if_pos (by omega), Nat.add_sub_cancel]
    · rw [pk_uLn hij, h4 i hi]
      by_cases h : j + 1 < i
      · rw [if_pos h, if_pos (by omega)]
      · rw [if_neg h, if_neg (by omega)]
theorem c_w31 (N t r n : Nat) (hN : 100 < N) (ht : t ≤ 10) (hr0 : 0 < r) (hr : r ≤ 15) (hn : n ≤ 15) (σ0 : q_S) : ∀ (d b m : Nat) (σ : q_S), b + d = n → d < m → σ.1 = σ0.1 → (∀ k, k < r → σ.2 83 k = lN (zZ t (10 - t) b (zE r k))) → ∃ σ', f_X1_withoutRow_31 N (nI n) (nI t) (nI r) m (nI b) σ = some (lN (zZ t (10 - t) n (zL r)), σ') ∧ σ'.1 = σ0.1 := by
  intro d
  induction d with
  | zero =>
    intro b m σ h1 h2 h3 h4
    obtain ⟨m, rfl⟩ : ∃ m', m = m' + 1 := ⟨m - 1, by omega⟩
    have e : b = n := by omega
    subst e
    have hs := c_sum N r hr σ (fun k => zZ t (10 - t) b (zE r k)) h4 r 0 N (by omega) (by omega)
    rw [← zL_E, nI_0] at hs
    refine ⟨σ, ?_, h3⟩
    rw [f_X1_withoutRow_31, if_pos (nI_le (Nat.le_refl _) (by omega)), f_X1_sumOfEnds, show (0 : Int64) = lN (su (fun k => zZ t (10 - t) b (zE r k)) 0) from rfl, hs]
    rfl
  | succ d ih =>
    intro b m σ h1 h2 h3 h4
    obtain ⟨m, rfl⟩ : ∃ m', m = m' + 1 := ⟨m - 1, by omega⟩
    have hs := c_sum N r hr σ (fun k => zZ t (10 - t) b (zE r k)) h4 r 0 N (by omega) (by omega)
    rw [← zL_E, nI_0] at hs
    rw [f_X1_withoutRow_31, if_neg (nI_ge (show b < n by omega) (by omega)), f_X1_sumOfEnds, show (0 : Int64) = lN (su (fun k => zZ t (10 - t) b (zE r k)) 0) from rfl, hs]
    simp only [Option.bind_some]
    obtain ⟨σ', e1, e2, e3, e4⟩ := c_w49 N (fun x4 σ => f_X1_withoutRow_31 N (nI n) (nI t) (nI r) m x4 σ) (nI n) t r ht hr0 hr b (zZ t (10 - t) b (zL r)) σ0 (fun k => zZ t (10 - t) b (zE r k)) (r - 1) N σ (by omega) (by omega) h3 (fun i hi => by rw [if_neg (by omega), h4 i hi])
    rw [show nI r - 1 = nI (r - 1) from pk_sub (b := 1) hr0, e1]
    refine ih (b + 1) m σ' (by omega) (by omega) e2 (fun k hk => ?_)
    cases k with
    | zero => rw [e3, zE_z]
    | succ k => rw [e4 k hk, zE_s _ _ _ _ _ hk]
theorem c_without (N t r n : Nat) (hN : 100 < N) (ht : t ≤ 10) (hr : r ≤ 15) (hn : n ≤ 15) (σ : q_S) : ∃ σ', f_X1_withoutRow N (nI n) (nI t) (nI r) σ = some (lN (zZ t (10 - t) n (zL r)), σ') ∧ σ'.1 = σ.1 := by
  unfold f_X1_withoutRow
  by_cases h0 : r = 0
  · subst h0
    rw [if_pos (by decide), show zZ t (10 - t) n (zL 0) = 0 from (zZ_congr _ _ _ _ (fun _ _ => 0) (fun l k _ _ => if_neg (by omega))).trans (zZ_0 _ _ _)]
    exact ⟨σ, rfl, rfl⟩
  · obtain ⟨σ1, e1, e2, e3⟩ := l_fill N 83 16 0 (by decide) σ 16 0 N σ (by omega) (by omega) rfl (fun j hj => by omega)
    rw [nI_0] at e1
    rw [if_neg (show ¬ nI r < 1 from nI_nlt (b := 1) (by omega) (by omega)), if_pos (show nI r ≤ 15 from nI_le (b := 15) hr (by decide)), f_J7_fill_d0a16, e1]
    simp only [Option.bind_some]
    rw [show (0 : Int32).toNatClampNeg = 0 from rfl]
    have h := c_w31 N t r n hN ht (by omega) hr hn σ n 0 N (q_wl σ1 83 0 1) (by omega) (by omega) e2 (fun k hk => by
      rw [l_w1, zE_0 _ _ _ (by omega)]
      by_cases hk0 : k = 0
      · rw [hk0, pk_uLs]
        rfl
      · rw [pk_uLn hk0, if_neg hk0]
        exact e3 k (by omega))
    rw [nI_0] at h
    exact h
theorem c_with (N t r n : Nat) (hN : 100 < N) (ht : t ≤ 10) (hr : r ≤ 15) (hn : n ≤ 15) (σ : q_S) : ∃ σ', f_X1_withRow N (nI n) (nI t) (nI r) σ = some (lN (zZ t (10 - t) n (zG r)), σ') ∧ σ'.1 = σ.1 := by
  obtain ⟨σ1, e1, e2⟩ := c_without N t r n hN ht hr hn σ
  have ht2 := c_ten N n (by omega) n 0 N (by omega) (by omega)
  rw [nI_0] at ht2
  have hz := zL_G t (10 - t) r n (by omega)
  refine ⟨σ1, ?_, e2⟩
  unfold f_X1_withRow f_X1_tenTo
  rw [show (1 : Int64) = lN (10 ^ 0) from rfl, ht2]
  simp only [Option.bind_some]
  rw [e1]
  simp only [Option.bind_some]
  rw [lN_sub (by omega), show 10 ^ n - zZ t (10 - t) n (zL r) = zZ t (10 - t) n (zG r) by omega]
theorem c_long (N t n : Nat) (hN : 100 < N) (ht : t ≤ 10) (hn : n ≤ 15) (σ0 : q_S) : ∀ (d r m : Nat) (σ : q_S), r + d = n → d < m → σ.1 = σ0.1 → ∃ σ', f_X1_longestRows_5 N (nI n) (nI t) m (lN (su (fun i => zZ t (10 - t) n (zG (i + 1))) r)) (nI (r + 1)) σ = some (lN (zZ t (10 - t) n (fun l _ => l)), σ') ∧ σ'.1 = σ0.1 := by
  intro d
  induction d with
  | zero =>
    intro r m σ h1 h2 h3
    obtain ⟨m, rfl⟩ : ∃ m', m = m' + 1 := ⟨m - 1, by omega⟩
    have e : r = n := by omega
    subst e
    refine ⟨σ, ?_, h3⟩
    rw [f_X1_longestRows_5, if_pos (nI_lt (by omega) (by omega)), zG_su]
  | succ d ih =>
    intro r m σ h1 h2 h3
    obtain ⟨m, rfl⟩ : ∃ m', m = m' + 1 := ⟨m - 1, by omega⟩
    obtain ⟨σ1, e1, e2⟩ := c_with N t (r + 1) n hN ht (by omega) hn σ
    rw [f_X1_longestRows_5, if_neg (nI_nlt (by omega) (by omega)), e1]
    simp only [Option.bind_some]
    rw [lN_add, nI_1]
    exact ih (r + 1) m σ1 (by omega) (by omega) (by rw [e2, h3])
