/-! trip: where both searches begin -/
def dgt (x : Int32) : Nat := if x = 0 then 0 else if 0 ≤ x then 2 else 1
theorem dgt_lt (x : Int32) : dgt x < 3 := by
  unfold dgt
  split
  · omega
  · split <;> omega
def hdI (u : Nat → Int32) : Nat → Nat
  | 0 => 0
  | a + 1 => dgt (u a - u (a + 1)) * 3 ^ a + hdI u a
theorem hdI_5 (u : Nat → Int32) {la : Nat} (h : la ≤ 5) : hdI u 5 < 243 ∧ hdI u 5 % 3 ^ la = hdI u la ∧ hdI u la < 3 ^ la := by
  have d0 := dgt_lt (u 0 - u (0 + 1))
  have d1 := dgt_lt (u 1 - u (1 + 1))
  have d2 := dgt_lt (u 2 - u (2 + 1))
  have d3 := dgt_lt (u 3 - u (3 + 1))
  have d4 := dgt_lt (u 4 - u (4 + 1))
  rcases la6 h with rfl | rfl | rfl | rfl | rfl | rfl <;> simp only [hdI, show (3 : Nat) ^ 0 = 1 from rfl, show (3 : Nat) ^ 1 = 3 from rfl, show (3 : Nat) ^ 2 = 9 from rfl, show (3 : Nat) ^ 3 = 27 from rfl, show (3 : Nat) ^ 4 = 81 from rfl, show (3 : Nat) ^ 5 = 243 from rfl] <;> refine ⟨?_, ?_, ?_⟩ <;> omega
theorem hdI_q (u : Nat → Int32) {la : Nat} (h : la ≤ 5) (cell : Nat) : qC la (243 * cell + hdI u 5) = cell * 3 ^ la + hdI u la := by
  obtain ⟨h1, h2, _⟩ := hdI_5 u h
  rw [qC_to h _ _ h1, h2]
theorem hd_arith (x a b : Nat) : (x * 3 + a) * 3 ^ b = x * 3 ^ (b + 1) + a * 3 ^ b := by
  rw [Nat.add_mul, Nat.pow_succ, Nat.mul_assoc, Nat.mul_comm 3]
theorem c_last (N pw : Nat) (σ : q_S) : ∀ (a m x : Nat), a ≤ 5 → a < m → f_X7_lastActs_7 N pw σ m (nI x) (nI a) = some (nI (x * 3 ^ a + hdI (σ.1 (pw + 6)) a)) := by
  intro a
  induction a with
  | zero =>
    intro m x h1 h2
    obtain ⟨m, rfl⟩ : ∃ m', m = m' + 1 := ⟨m - 1, by omega⟩
    rw [f_X7_lastActs_7, if_pos (show nI 0 ≤ 0 by decide), hdI, Nat.pow_zero, Nat.mul_one, Nat.add_zero]
  | succ a ih =>
    intro m x h1 h2
    obtain ⟨m, rfl⟩ : ∃ m', m = m' + 1 := ⟨m - 1, by omega⟩
    have key : ∀ e, dgt (σ.1 (pw + 6) a - σ.1 (pw + 6) (a + 1)) = e → f_X7_lastActs_7 N pw σ m (nI x * 3 + nI e) (nI a) = some (nI (x * 3 ^ (a + 1) + hdI (σ.1 (pw + 6)) (a + 1))) := by
      intro e he
      rw [show nI x * 3 = nI (x * 3) from pk_mul x 3, nI_add, ih m (x * 3 + e) (by omega) (by omega), hd_arith, hdI, he, Nat.add_assoc]
    rw [f_X7_lastActs_7, if_neg (nI_nle (by omega) (by omega)), nI_pred, pk_m1, if_pos (nI_in (show a < 6 by omega) (by decide)), if_pos (nI_in (show a + 1 < 6 by omega) (by decide)), nI_clamp (show a < _ by omega), nI_clamp (show a + 1 < _ by omega)]
    by_cases e0 : σ.1 (pw + 6) a - σ.1 (pw + 6) (a + 1) = 0
    · rw [if_pos e0]
      exact key 0 (by rw [dgt, if_pos e0])
    · rw [if_neg e0]
      by_cases e1 : (0 : Int32) ≤ σ.1 (pw + 6) a - σ.1 (pw + 6) (a + 1)
      · rw [if_pos e1]
        exact key 2 (by rw [dgt, if_neg e0, if_pos e1])
      · rw [if_neg e1]
        exact key 1 (by rw [dgt, if_neg e0, if_neg e1])
theorem i_le0 (x : Int32) (h : (0 : Int32) ≤ x) : x ≤ 0 ↔ x = 0 := by
  rw [Int32.le_iff_toInt_le] at *
  have h0 : (0 : Int32).toInt = 0 := rfl
  constructor
  · intro q
    apply Int32.toInt_inj.mp
    omega
  · intro q
    rw [q]
    exact Int.le_refl _
theorem r_55 (N k : Nat) (hk : k < 6) (x2 x3 : Int32) (σ : q_S) (u : Nat → Int32) (cell : Nat) (hc : cell < 20) (h0 : σ.1 86 (6 * k) = nI cell) (hu : ∀ i, i < 6 → σ.1 86 (6 * k + i) = u i) : ∀ (a m x : Nat), a ≤ 5 → a < m → x * 3 ^ a + hdI u a < 243 → f_X10_tripTo_55 N (nI k) x2 x3 m (nI x) (nI a + (-1)) σ = f_X10_tripTo_164 N (nI k) x2 x3 (-1) N 1 0 (q_w (q_w σ 90 (243 * cell + (x * 3 ^ a + hdI u a)) 0) 91 0 (nI (243 * cell + (x * 3 ^ a + hdI u a)))) := by
  have h6k : (6 : Int32) * nI k = nI (6 * k) := pk_mul 6 k
  intro a
  induction a with
  | zero =>
    intro m x h1 h2 h3
    obtain ⟨m, rfl⟩ : ∃ m', m = m' + 1 := ⟨m - 1, by omega⟩
    rw [hdI, Nat.pow_zero, Nat.mul_one, Nat.add_zero] at h3 ⊢
    rw [f_X10_tripTo_55, if_pos (show nI 0 + (-1) < 0 by decide), h6k, if_pos (nI_in (show 6 * k < 50 by omega) (by decide)), nI_clamp (show 6 * k < _ by omega), h0, show (243 : Int32) * nI cell = nI (243 * cell) from pk_mul 243 cell, nI_add, if_pos (nI_in (show 243 * cell + x < 4860 by omega) (by decide)), nI_clamp (show 243 * cell + x < _ by omega)]
    rfl
  | succ a ih =>
    intro m x h1 h2 h3
    obtain ⟨m, rfl⟩ : ∃ m', m = m' + 1 := ⟨m - 1, by omega⟩
    have key : ∀ e, dgt (u a - u (a + 1)) = e → f_X10_tripTo_55 N (nI k) x2 x3 m (3 * nI x + nI e) (nI a + (-1)) σ = f_X10_tripTo_164 N (nI k) x2 x3 (-1) N 1 0 (q_w (q_w σ 90 (243 * cell + (x * 3 ^ (a + 1) + hdI u (a + 1))) 0) 91 0 (nI (243 * cell + (x * 3 ^ (a + 1) + hdI u (a + 1))))) := by
      intro e he
      have e1 : (x * 3 + e) * 3 ^ a + hdI u a = x * 3 ^ (a + 1) + hdI u (a + 1) := by
        rw [hd_arith, hdI, he, Nat.add_assoc]
      rw [show (3 : Int32) * nI x = nI (3 * x) from pk_mul 3 x, nI_add, Nat.mul_comm 3 x, ih m (x * 3 + e) (by omega) (by omega) (by rw [e1]; exact h3), e1]
    rw [f_X10_tripTo_55, pk_m1, if_neg (nI_pos (by omega)), h6k, nI_add, nI_1, if_pos (nI_in (show 6 * k + a < 50 by omega) (by decide)), if_pos (nI_in (show 6 * k + a + 1 < 50 by omega) (by decide)), nI_clamp (show 6 * k + a < _ by omega), nI_clamp (show 6 * k + a + 1 < _ by omega), hu a (by omega), Nat.add_assoc, hu (a + 1) (by omega)]
    unfold f_X10_tripTo_89
    by_cases e1 : (0 : Int32) ≤ u a - u (a + 1)
    · rw [if_pos e1]
      by_cases e0 : u a - u (a + 1) = 0
      · rw [if_pos ((i_le0 _ e1).mpr e0)]
        exact key 0 (by rw [dgt, if_pos e0])
      · rw [if_neg (fun q => e0 ((i_le0 _ e1).mp q))]
        exact key 2 (by rw [dgt, if_neg e0, if_pos e1])
    · rw [if_neg e1]
      have e0 : ¬ u a - u (a + 1) = 0 := fun q => e1 (by rw [q]; decide)
      exact key 1 (by rw [dgt, if_neg e0, if_neg e1])
theorem r_27 (N : Nat) (x1 x2 x3 : Int32) (σ0 : q_S) : ∀ (d i m : Nat) (σ : q_S), i + d = 4860 → d < m → aO 90 σ0 σ → (∀ j, j < i → σ.1 90 j = -1) → ∃ σ', f_X10_tripTo_27 N x1 x2 x3 m (nI i) σ = f_X10_tripTo_55 N x1 x2 x3 N 0 4 σ' ∧ aO 90 σ0 σ' ∧ ∀ j, j < 4860 → σ'.1 90 j = -1 := by
  intro d
  induction d with
  | zero =>
    intro i m σ h1 h2 h3 h4
    obtain ⟨m, rfl⟩ : ∃ m', m = m' + 1 := ⟨m - 1, by omega⟩
    have e : i = 4860 := by omega
    subst e
    exact ⟨σ, by rw [f_X10_tripTo_27, if_pos (show (4860 : Int32) ≤ nI 4860 by decide)], h3, h4⟩
  | succ d ih =>
    intro i m σ h1 h2 h3 h4
    obtain ⟨m, rfl⟩ : ∃ m', m = m' + 1 := ⟨m - 1, by omega⟩
    have hi : i < 4860 := by omega
    rw [f_X10_tripTo_27, if_neg (show ¬ (4860 : Int32) ≤ nI i from nI_ge (b := 4860) hi (by decide)), if_pos (nI_in hi (by decide)), nI_1, nI_clamp (by omega)]
    refine ih (i + 1) m _ (by omega) (by omega) (fun q hq => by rw [s_wn _ _ _ _ hq]; exact h3 q hq) (fun j hj => ?_)
    rw [s_w1]
    by_cases hji : j = i
    · rw [hji, s_u1]
    · rw [s_un _ _ _ hji]
      exact h4 j (by omega)
/-- the reference's whole search -/
theorem r_all (N : Nat) (hN : 5000 < N) (k : Nat) (hk : k < 6) (md : Bool) (la : Nat) (hla : la ≤ 5) (gp : Nat) (hg : gp < 20) (goal : Nat) (hgo : goal < 20) (σ : q_S) (h87 : σ.1 87 k = nI la) (h84 : σ.1 84 5 = nI gp) (u : Nat → Int32) (cell : Nat) (hc : cell < 20) (h0 : σ.1 86 (6 * k) = nI cell) (hu : ∀ i, i < 6 → σ.1 86 (6 * k + i) = u i) : ∃ r σ', f_X10_tripTo_27 N (nI k) (nI goal) (bz md) N 0 σ = some (r, σ') ∧ (∀ p, p ≠ 90 → p ≠ 91 → σ'.1 p = σ.1 p) ∧ ((∃ cc, r = nI cc ∧ cc < 100000 ∧ Best (stR md la gp) (243 * cell + hdI u 5) (fun s => s / 243 = goal) cc) ∨ (r = -1 ∧ NoWay (stR md la gp) (243 * cell + hdI u 5) (fun s => s / 243 = goal))) := by
  have hh := (hdI_5 u hla).1
  obtain ⟨σ1, e1, o1, s1⟩ := r_27 N (nI k) (nI goal) (bz md) σ 4860 0 N σ (by omega) (by omega) (fun _ _ => rfl) (fun j hj => by omega)
  rw [nI_0] at e1
  have e2 := r_55 N k hk (nI goal) (bz md) σ1 u cell hc (by rw [o1 86 (by decide)]; exact h0) (fun i hi => by rw [o1 86 (by decide)]; exact hu i hi) 5 N 0 (by omega) (by omega) (by rw [Nat.zero_mul, Nat.zero_add]; exact hh)
  rw [Nat.zero_mul, Nat.zero_add, show nI 5 + (-1) = (4 : Int32) by decide, nI_0] at e2
  rw [e1, e2]
  have hs : 243 * cell + hdI u 5 < 4860 := by omega
  have h3 := r_164 N (by omega) k hk md la hla gp hg goal hgo σ h87 h84 (243 * cell + hdI u 5) 4861 0 N (q_w (q_w σ1 90 (243 * cell + hdI u 5) 0) 91 0 (nI (243 * cell + hdI u 5))) (fun _ => 243 * cell + hdI u 5) (fun _ => 0) 1 (by omega) (by omega) (by omega) ⟨fun p a b => by rw [s_wn _ _ _ _ b, s_wn _ _ _ _ a]; exact o1 p a, fun j hj => ?_, fun s hs hn => ?_⟩ (BI_start _ _ _ hs _ _ rfl rfl) (fun j hj => by omega)
  · rw [nI_0, show nI 1 = 1 from rfl] at h3
    exact h3
  · have ej : j = 0 := by omega
    rw [ej, s_w1, s_u1, s_wn _ _ _ _ (by decide), s_w1, s_u1]
    exact ⟨rfl, rfl⟩
  · rw [s_wn _ _ _ _ (by decide), s_w1, s_un _ _ _ (fun e => hn 0 (by omega) e.symm)]
    exact s1 s hs
/-- the class's whole search -/
theorem c_all (N : Nat) (hN : 5000 < N) (la : Nat) (hla : la ≤ 5) (gp : Nat) (hg : gp < 20) (goal : Nat) (hgo : goal < 20) (pw : Nat) (hpw : pw + 6 < 74) (σ : q_S) (hlate : σ.1 pw 1 = nI la) (cell : Nat) (hc : cell < 20) (h0 : σ.1 (pw + 6) 0 = nI cell) (hne : ¬ cell = goal) (h3 : σ.1 74 3 = -6) (h4 : σ.1 74 4 = -6) : ∃ σ', f_X7_search N pw (nI goal) (nI gp) σ = some σ' ∧ ((∃ cc, CF la gp (cell * 3 ^ la + hdI (σ.1 (pw + 6)) la) goal σ σ' cc) ∨ ((∀ p, p ≠ 74 → p ≠ 75 → p ≠ 76 → σ'.1 p = σ.1 p) ∧ σ'.1 74 3 = -6 ∧ σ'.1 74 4 = -6 ∧ NoWay (stC la gp) (cell * 3 ^ la + hdI (σ.1 (pw + 6)) la) (fun p => p / 3 ^ la = goal))) := by
  obtain ⟨w1, w2⟩ := pw_le hla
  have hh := (hdI_5 (σ.1 (pw + 6)) hla).2.2
  have er : q_s1 la = nI (3 ^ la) := i_rows ⟨la, by omega⟩
  have hp0 : cell * 3 ^ la + hdI (σ.1 (pw + 6)) la < 20 * 3 ^ la := by
    have : cell * 3 ^ la ≤ 19 * 3 ^ la := Nat.mul_le_mul_right _ (by omega)
    omega
  have f1 : ∀ p, p ≠ 74 → p ≠ 76 → (q_w (s_fill σ 76 0 152 0) 74 2 0).1 p = σ.1 p := fun p a b => by
    rw [s_wn _ _ _ _ a]
    exact if_neg b
  have hcs0 : CS σ (q_w (s_fill σ 76 0 152 0) 74 2 0) (fun _ => 0) (fun _ => 0) 0 := by
    refine ⟨fun p a b d => f1 p a d, by rw [s_w1, s_u1]; rfl, ?_, ?_, fun j hj => by omega, fun s hs => ⟨fun _ j hj => by omega, fun _ => ?_⟩⟩
    · rw [s_w1, s_un _ _ _ (by decide)]
      exact h3
    · rw [s_w1, s_un _ _ _ (by decide)]
      exact h4
    · rw [s_wn _ _ _ _ (by decide)]
      show ((if (76 : Nat) = 76 then (fun k => if 0 ≤ k ∧ k < 152 then (0 : Int32) else σ.1 76 k) else σ.1 76) (s / 32)) &&& btI (s % 32) = 0
      rw [if_pos rfl]
      show (if 0 ≤ s / 32 ∧ s / 32 < 152 then (0 : Int32) else σ.1 76 (s / 32)) &&& btI (s % 32) = 0
      rw [if_pos (by omega)]
      exact Int32.zero_and
  unfold f_X7_search f_X7_lastActs
  rw [s_fillI _ _ _ _ _ (by decide) (by omega)]
  simp only [Option.bind_some]
  rw [f1 pw (by omega) (by omega), f1 (pw + 6) (by omega) (by omega), hlate, if_pos (nI_in (show la < 6 by omega) (by decide)), nI_clamp (show la < _ by omega)]
  have e1 := c_last N pw (q_w (s_fill σ 76 0 152 0) 74 2 0) la N 0 hla (by omega)
  rw [Nat.zero_mul, Nat.zero_add, nI_0, f1 (pw + 6) (by omega) (by omega)] at e1
  rw [e1]
  simp only [Option.bind_some]
  rw [show (0 : Int32).toNatClampNeg = 0 from rfl, h0, er, pk_mul, nI_add]
  have e2 := c_offN (p := cell * 3 ^ la + hdI (σ.1 (pw + 6)) la) (many := 0) (f := 0) (g := 0) (by omega) (by decide) (by decide) (by decide) (q_w (s_fill σ 76 0 152 0) 74 2 0) hcs0.2.1 ((hcs0.2.2.2.2.2 _ (by omega)).mpr (fun j hj => by omega))
  rw [nI_0] at e2
  rw [e2]
  simp only [Option.bind_some]
  have hcs1 := CS_push hcs0 (show cell * 3 ^ la + hdI (σ.1 (pw + 6)) la < 4860 by omega) (fun j hj => by omega) (fun _ => cell * 3 ^ la + hdI (σ.1 (pw + 6)) la) (fun _ => 0) (fun j hj => by omega) rfl (fun j hj => by omega) rfl
  have h5 := c_search N (by omega) la hla gp hg goal hgo pw (by omega) σ hlate (cell * 3 ^ la + hdI (σ.1 (pw + 6)) la) 4861 0 N _ _ _ 1 (by omega) (by omega) (by omega) hcs1 (BI_start _ _ _ hp0 _ _ rfl rfl) (fun j hj => by
    rw [md_div hh]
    exact hne)
  rw [nI_0] at h5
  exact h5
