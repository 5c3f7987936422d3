/-! trip: one act, in both graphs -/
def dgI (w : Nat) : Int := if w = 1 then -1 else if w = 2 then 1 else 0
def ldI : Nat → Nat → Int
  | 0, _ => 0
  | n + 1, h => dgI (h % 3) + ldI n (h / 3)
theorem ldI_bd : ∀ n h : Nat, -(n : Int) ≤ ldI n h ∧ ldI n h ≤ n := by
  intro n
  induction n with
  | zero => intro h; exact ⟨Int.le_refl _, Int.le_refl _⟩
  | succ n ih =>
    intro h
    have a := ih (h / 3)
    rw [ldI]
    unfold dgI
    split
    · omega
    · split <;> omega
/-- the cell that he comes to, and one more -/
def tg (cell w : Nat) : Nat := cell + (if w = 1 then 0 else if w = 2 then 2 else 1)
abbrev mv (md : Bool) (la gp w h : Nat) : Prop := w = 0 ∨ md = false ∨ (-(gp : Int) ≤ ldI la h ∧ ldI la h ≤ gp)
def stR (md : Bool) (la gp s w : Nat) : Option Nat := if (1 ≤ tg (s / 243) w ∧ tg (s / 243) w ≤ 20) ∧ mv md la gp w (s % 81 * 3 + w) then some (243 * (tg (s / 243) w - 1) + s % 81 * 3 + w) else none
def stC (la gp p w : Nat) : Option Nat := if (1 ≤ tg (p / 3 ^ la) w ∧ tg (p / 3 ^ la) w ≤ 20) ∧ mv true la gp w ((p % 3 ^ la * 3 + w) % 3 ^ la) then some ((tg (p / 3 ^ la) w - 1) * 3 ^ la + (p % 3 ^ la * 3 + w) % 3 ^ la) else none
def qC (la s : Nat) : Nat := s / 243 * 3 ^ la + s % 3 ^ la
theorem la6 {la : Nat} (h : la ≤ 5) : la = 0 ∨ la = 1 ∨ la = 2 ∨ la = 3 ∨ la = 4 ∨ la = 5 := by omega
theorem ldI_mod {la : Nat} (h : la ≤ 5) (x : Nat) : ldI la (x % 3 ^ la) = ldI la x := by
  rcases la6 h with rfl | rfl | rfl | rfl | rfl | rfl
  · rfl
  · simp only [ldI, show (3 : Nat) ^ 1 = 3 from rfl, show x % 3 % 3 = x % 3 by omega]
  · simp only [ldI, show (3 : Nat) ^ 2 = 9 from rfl, show x % 9 % 3 = x % 3 by omega, show x % 9 / 3 % 3 = x / 3 % 3 by omega]
  · simp only [ldI, show (3 : Nat) ^ 3 = 27 from rfl, show x % 27 % 3 = x % 3 by omega, show x % 27 / 3 % 3 = x / 3 % 3 by omega, show x % 27 / 3 / 3 % 3 = x / 3 / 3 % 3 by omega]
  · simp only [ldI, show (3 : Nat) ^ 4 = 81 from rfl, show x % 81 % 3 = x % 3 by omega, show x % 81 / 3 % 3 = x / 3 % 3 by omega, show x % 81 / 3 / 3 % 3 = x / 3 / 3 % 3 by omega, show x % 81 / 3 / 3 / 3 % 3 = x / 3 / 3 / 3 % 3 by omega]
  · simp only [ldI, show (3 : Nat) ^ 5 = 243 from rfl, show x % 243 % 3 = x % 3 by omega, show x % 243 / 3 % 3 = x / 3 % 3 by omega, show x % 243 / 3 / 3 % 3 = x / 3 / 3 % 3 by omega, show x % 243 / 3 / 3 / 3 % 3 = x / 3 / 3 / 3 % 3 by omega, show x % 243 / 3 / 3 / 3 / 3 % 3 = x / 3 / 3 / 3 / 3 % 3 by omega]
theorem qC_facts {la : Nat} (h : la ≤ 5) (s w : Nat) (hw : w < 3) : qC la s / 3 ^ la = s / 243 ∧ qC la s % 3 ^ la = s % 3 ^ la ∧ (s % 3 ^ la * 3 + w) % 3 ^ la = (s % 81 * 3 + w) % 3 ^ la := by
  unfold qC
  rcases la6 h with rfl | rfl | rfl | rfl | rfl | rfl
  · simp only [show (3 : Nat) ^ 0 = 1 from rfl]
    omega
  · simp only [show (3 : Nat) ^ 1 = 3 from rfl]
    omega
  · simp only [show (3 : Nat) ^ 2 = 9 from rfl]
    omega
  · simp only [show (3 : Nat) ^ 3 = 27 from rfl]
    omega
  · exact ⟨by rw [show (3 : Nat) ^ 4 = 81 from rfl]; omega, by rw [show (3 : Nat) ^ 4 = 81 from rfl]; omega, rfl⟩
  · simp only [show (3 : Nat) ^ 5 = 243 from rfl]
    omega
theorem qC_to {la : Nat} (h : la ≤ 5) (to x : Nat) (hx : x < 243) : qC la (243 * to + x) = to * 3 ^ la + x % 3 ^ la := by
  unfold qC
  rcases la6 h with rfl | rfl | rfl | rfl | rfl | rfl
  · simp only [show (3 : Nat) ^ 0 = 1 from rfl]
    omega
  · simp only [show (3 : Nat) ^ 1 = 3 from rfl]
    omega
  · simp only [show (3 : Nat) ^ 2 = 9 from rfl]
    omega
  · simp only [show (3 : Nat) ^ 3 = 27 from rfl]
    omega
  · simp only [show (3 : Nat) ^ 4 = 81 from rfl]
    omega
  · simp only [show (3 : Nat) ^ 5 = 243 from rfl]
    omega
theorem st_sim {la : Nat} (h : la ≤ 5) (gp s w : Nat) (hs : s < 4860) (hw : w < 3) : stC la gp (qC la s) w = (stR true la gp s w).map (qC la) := by
  obtain ⟨f1, f2, f3⟩ := qC_facts h s w hw
  unfold stC stR
  rw [f1, f2, f3]
  unfold mv
  rw [ldI_mod h]
  by_cases hc : (1 ≤ tg (s / 243) w ∧ tg (s / 243) w ≤ 20) ∧ (w = 0 ∨ true = false ∨ (-(gp : Int) ≤ ldI la (s % 81 * 3 + w) ∧ ldI la (s % 81 * 3 + w) ≤ gp))
  · rw [if_pos hc, if_pos hc, Option.map_some, Nat.add_assoc, qC_to h _ _ (by omega)]
  · rw [if_neg hc, if_neg hc]
    rfl
theorem stR_lt {md : Bool} {la gp s w s' : Nat} (hw : w < 3) (h : stR md la gp s w = some s') : s' < 4860 ∧ s' / 243 = tg (s / 243) w - 1 ∧ 1 ≤ tg (s / 243) w := by
  unfold stR at h
  by_cases hc : (1 ≤ tg (s / 243) w ∧ tg (s / 243) w ≤ 20) ∧ mv md la gp w (s % 81 * 3 + w)
  · rw [if_pos hc] at h
    have e := Option.some.inj h
    have := hc.1
    omega
  · rw [if_neg hc] at h
    cases h
theorem pw_le {la : Nat} (h : la ≤ 5) : 3 ^ la ≤ 243 ∧ 0 < 3 ^ la := by
  rcases la6 h with rfl | rfl | rfl | rfl | rfl | rfl <;> decide
theorem qC_lt {la : Nat} (h : la ≤ 5) (s : Nat) (hs : s < 4860) : qC la s < 4860 := by
  unfold qC
  rcases la6 h with rfl | rfl | rfl | rfl | rfl | rfl
  · simp only [show (3 : Nat) ^ 0 = 1 from rfl]
    omega
  · simp only [show (3 : Nat) ^ 1 = 3 from rfl]
    omega
  · simp only [show (3 : Nat) ^ 2 = 9 from rfl]
    omega
  · simp only [show (3 : Nat) ^ 3 = 27 from rfl]
    omega
  · simp only [show (3 : Nat) ^ 4 = 81 from rfl]
    omega
  · simp only [show (3 : Nat) ^ 5 = 243 from rfl]
    omega
theorem stC_lt {la gp p w p' : Nat} (hla : la ≤ 5) (h : stC la gp p w = some p') : p' < 20 * 3 ^ la ∧ p' < 4860 := by
  unfold stC at h
  by_cases hc : (1 ≤ tg (p / 3 ^ la) w ∧ tg (p / 3 ^ la) w ≤ 20) ∧ mv true la gp w ((p % 3 ^ la * 3 + w) % 3 ^ la)
  · rw [if_pos hc] at h
    have e := Option.some.inj h
    have h1 := hc.1
    obtain ⟨b1, b2⟩ := pw_le hla
    have h2 : (p % 3 ^ la * 3 + w) % 3 ^ la < 3 ^ la := Nat.mod_lt _ b2
    have h3 : (tg (p / 3 ^ la) w - 1) * 3 ^ la ≤ 19 * 3 ^ la := Nat.mul_le_mul_right _ (by omega)
    omega
  · rw [if_neg hc] at h
    cases h
/-! the numbers of the machine -/
theorem i_cell : ∀ (c : Fin 20) (v : Fin 3), f_X10_isCell (nI c.val + q_s2 v.val) = (if 1 ≤ tg c.val v.val ∧ tg c.val v.val ≤ 20 then 1 else 0) ∧ f_X9_isCell (nI c.val + q_s2 v.val) = (if 1 ≤ tg c.val v.val ∧ tg c.val v.val ≤ 20 then 1 else 0) ∧ ((1 ≤ tg c.val v.val ∧ tg c.val v.val ≤ 20) → nI c.val + q_s2 v.val = nI (tg c.val v.val - 1)) := by decide +kernel
theorem i_abs : ∀ (i : Fin 11) (g : Fin 20), (f_J9_abs_0f7a4 (Int32.ofInt ((i.val : Int) - 5)) ≤ nI g.val ↔ (-(g.val : Int) ≤ (i.val : Int) - 5 ∧ (i.val : Int) - 5 ≤ g.val)) ∧ ((-(nI g.val) ≤ Int32.ofInt ((i.val : Int) - 5) ∧ Int32.ofInt ((i.val : Int) - 5) ≤ nI g.val) ↔ (-(g.val : Int) ≤ (i.val : Int) - 5 ∧ (i.val : Int) - 5 ≤ g.val)) := by decide +kernel
theorem i_abs2 {la : Nat} (h : la ≤ 5) (x : Nat) {gp : Nat} (hg : gp < 20) : (f_J9_abs_0f7a4 (Int32.ofInt (ldI la x)) ≤ nI gp ↔ (-(gp : Int) ≤ ldI la x ∧ ldI la x ≤ gp)) ∧ ((-(nI gp) ≤ Int32.ofInt (ldI la x) ∧ Int32.ofInt (ldI la x) ≤ nI gp) ↔ (-(gp : Int) ≤ ldI la x ∧ ldI la x ≤ gp)) := by
  have b := ldI_bd la x
  obtain ⟨i, hi, e⟩ : ∃ i : Nat, i < 11 ∧ ldI la x = (i : Int) - 5 := ⟨(ldI la x + 5).toNat, by omega, by omega⟩
  rw [e]
  exact i_abs ⟨i, hi⟩ ⟨gp, hg⟩
theorem i_dg (h : Nat) : q_s2 (h % 3) = Int32.ofInt (dgI (h % 3)) := by
  have : h % 3 < 3 := Nat.mod_lt _ (by decide)
  rcases (show h % 3 = 0 ∨ h % 3 = 1 ∨ h % 3 = 2 by omega) with e | e | e <;> rw [e] <;> decide
theorem i_lead (N la : Nat) (hla : la ≤ 5) (σ : q_S) : ∀ (d i m h : Nat) (x : Int32), i + d = la → d < m → h < 2 ^ 31 → f_X7_lead_7 N (nI la) σ m (nI h) x (nI i) = some (x + Int32.ofInt (ldI d h)) := by
  intro d
  induction d with
  | zero =>
    intro i m h x h1 h2 h3
    obtain ⟨m, rfl⟩ : ∃ m', m = m' + 1 := ⟨m - 1, by omega⟩
    have e : i = la := by omega
    subst e
    rw [f_X7_lead_7, if_pos (nI_le (Nat.le_refl _) (by omega)), ldI, show Int32.ofInt 0 = 0 from rfl, Int32.add_zero]
  | succ d ih =>
    intro i m h x h1 h2 h3
    obtain ⟨m, rfl⟩ : ∃ m', m = m' + 1 := ⟨m - 1, by omega⟩
    have e1 : q_rem (nI h) 3 = nI (h % 3) := pk_rem (d := 3) h3 (by decide) (by decide)
    have e2 : nI h / 3 = nI (h / 3) := pk_div (d := 3) h3 (by decide) (by decide)
    rw [f_X7_lead_7, if_neg (nI_ge (show i < la by omega) (by omega)), e1, e2, if_pos (nI_in (show h % 3 < 3 by omega) (by decide)), nI_clamp (by omega), nI_1, ih (i + 1) m (h / 3) _ (by omega) (by omega) (by omega), i_dg, ldI, Int32.ofInt_add, Int32.add_assoc]
theorem i_back (N la : Nat) (hla : la ≤ 5) : ∀ (d i m h : Nat) (x : Int32), i + d = la → d < m → h < 2 ^ 31 → f_X10_backBy_15 N (nI la) m x (nI h) (nI i) = some (x - Int32.ofInt (ldI d h)) := by
  intro d
  induction d with
  | zero =>
    intro i m h x h1 h2 h3
    obtain ⟨m, rfl⟩ : ∃ m', m = m' + 1 := ⟨m - 1, by omega⟩
    have e : i = la := by omega
    subst e
    rw [f_X10_backBy_15, if_pos (nI_le (Nat.le_refl _) (by omega)), ldI, show Int32.ofInt 0 = 0 from rfl, Int32.sub_zero]
  | succ d ih =>
    intro i m h x h1 h2 h3
    obtain ⟨m, rfl⟩ : ∃ m', m = m' + 1 := ⟨m - 1, by omega⟩
    have e1 : q_rem (nI h) 3 = nI (h % 3) := pk_rem (d := 3) h3 (by decide) (by decide)
    have e2 : nI h / 3 = nI (h / 3) := pk_div (d := 3) h3 (by decide) (by decide)
    have e3 : ∀ a b : Int, x - Int32.ofInt a - Int32.ofInt b = x - Int32.ofInt (a + b) := by
      intro a b
      rw [Int32.ofInt_add]
      generalize Int32.ofInt a = y
      generalize Int32.ofInt b = z
      rw [Int32.sub_eq_add_neg, Int32.sub_eq_add_neg, Int32.sub_eq_add_neg, Int32.neg_add, Int32.sub_eq_add_neg, Int32.add_assoc]
    rw [f_X10_backBy_15, if_neg (nI_ge (show i < la by omega) (by omega)), e1, e2, nI_1, ldI]
    rcases (show h % 3 = 0 ∨ h % 3 = 1 ∨ h % 3 = 2 by omega) with e | e | e
    · rw [e, if_neg (by decide), if_neg (by decide), ih (i + 1) m (h / 3) _ (by omega) (by omega) (by omega), show (0 : Int32) = Int32.ofInt 0 from rfl, e3]
      rfl
    · rw [e, if_pos (by decide), ih (i + 1) m (h / 3) _ (by omega) (by omega) (by omega), show (-1 : Int32) = Int32.ofInt (-1) from rfl, e3]
      rfl
    · rw [e, if_neg (by decide), if_pos (by decide), ih (i + 1) m (h / 3) _ (by omega) (by omega) (by omega), show (1 : Int32) = Int32.ofInt 1 from rfl, e3]
      rfl
