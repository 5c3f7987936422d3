/-! which places are a Reach, a Walker, Sights; what lies there -/
def q_R (r : Nat) : Prop := r = 0 ∨ r = 17 ∨ r = 34 ∨ r = 51
def q_Wk (w : Nat) : Prop := ∃ r i, q_R r ∧ i < 6 ∧ w = r + 2 + i
def q_Sg (s : Nat) : Prop := ∃ r, q_R r ∧ s = r + 14
def q_IArr (Z : q_Z) (a n : Nat) : Prop := a < 98 ∧ ∀ (f : Nat → Int32) (g : Nat → Int64), q_cell Z.1 Z.2.1 a f g = .inl (Z.2.1 0, n, .inl f)
def q_JArr (Z : q_Z) (a n : Nat) : Prop := a < 98 ∧ ∀ (f : Nat → Int32) (g : Nat → Int64), q_cell Z.1 Z.2.1 a f g = .inl (Z.2.1 3, n, .inr (.inl g))
abbrev q_rem (x y : Int32) : Int32 := x - x / y * y
abbrev q_reml (x y : Int64) : Int64 := x - x / y * y
abbrev q_i2c (x : Int32) : Int32 := (x.toUInt32 % 65536).toInt32
theorem q_r0 : q_R 0 := Or.inl rfl
theorem q_r17 : q_R 17 := Or.inr (Or.inl rfl)
theorem q_Rlt {r : Nat} (h : q_R r) : r < 98 := by rcases h with h | h | h | h <;> omega
theorem q_RAlt {r : Nat} (h : q_R r) : r + 1 < 98 := by rcases h with h | h | h | h <;> omega
theorem q_Wlt {w : Nat} (h : q_Wk w) : w < 98 := by obtain ⟨r, i, hr, hi, e⟩ := h; rcases hr with h | h | h | h <;> omega
theorem q_WAlt {w : Nat} (h : q_Wk w) : w + 6 < 98 := by obtain ⟨r, i, hr, hi, e⟩ := h; rcases hr with h | h | h | h <;> omega
theorem q_Slt {w : Nat} (h : q_Sg w) : w < 98 := by obtain ⟨r, hr, e⟩ := h; rcases hr with h | h | h | h <;> omega
theorem q_S1lt {w : Nat} (h : q_Sg w) : w + 1 < 98 := by obtain ⟨r, hr, e⟩ := h; rcases hr with h | h | h | h <;> omega
theorem q_S2lt {w : Nat} (h : q_Sg w) : w + 2 < 98 := by obtain ⟨r, hr, e⟩ := h; rcases hr with h | h | h | h <;> omega
theorem q_RW {r : Nat} {i : Int32} (h : q_R r) (hi : ¬ (i < 0 ∨ 6 ≤ i.toNatClampNeg)) : q_Wk (r + 2 + i.toNatClampNeg) := ⟨r, i.toNatClampNeg, h, by omega, rfl⟩
theorem q_RS {r : Nat} (h : q_R r) : q_Sg (r + 14) := ⟨r, h, rfl⟩
theorem q_IR {i : Int32} (hi : ¬ (i < 0 ∨ 2 ≤ i.toNatClampNeg)) : q_R (34 + 17 * i.toNatClampNeg) := by
  have h : i.toNatClampNeg = 0 ∨ i.toNatClampNeg = 1 := by omega
  rcases h with h | h <;> rw [h]
  · exact Or.inr (Or.inr (Or.inl rfl))
  · exact Or.inr (Or.inr (Or.inr rfl))
section
variable {E : Nat → Nat} {X : Nat → ClassId}
theorem q_cR {r : Nat} (h : q_R r) : ∀ (f : Nat → Int32) (g : Nat → Int64), q_cell E X r f g = .inr (3, [.int (f 0), .int (f 1), .int (f 2), .int (f 3), .ref (E (r + 1)), .ref (E (r + 14))]) := by
  intro f g
  rcases h with h | h | h | h <;> subst h <;> rfl
theorem q_cRA {r : Nat} (h : q_R r) : ∀ (f : Nat → Int32) (g : Nat → Int64), q_cell E X (r + 1) f g = .inl (X 4, 6, .inr (.inr (.inr (.inr (fun i => some (E (r + 2 + i))))))) := by
  intro f g
  rcases h with h | h | h | h <;> subst h <;> rfl
theorem q_cW {w : Nat} (h : q_Wk w) : ∀ (f : Nat → Int32) (g : Nat → Int64), q_cell E X w f g = .inr (8, [.int (f 0), .int (f 1), .int (f 2), .int (f 3), .int (f 4), .ref (E (w + 6))]) := by
  intro f g
  obtain ⟨r, i, hr, hi, e⟩ := h
  have h : i = 0 ∨ i = 1 ∨ i = 2 ∨ i = 3 ∨ i = 4 ∨ i = 5 := by omega
  subst e
  rcases hr with h1 | h1 | h1 | h1 <;> subst h1 <;> rcases h with h | h | h | h | h | h <;> subst h <;> rfl
theorem q_cWA {w : Nat} (h : q_Wk w) : ∀ (f : Nat → Int32) (g : Nat → Int64), q_cell E X (w + 6) f g = .inl (X 0, 6, .inl f) := by
  intro f g
  obtain ⟨r, i, hr, hi, e⟩ := h
  have h : i = 0 ∨ i = 1 ∨ i = 2 ∨ i = 3 ∨ i = 4 ∨ i = 5 := by omega
  subst e
  rcases hr with h1 | h1 | h1 | h1 <;> subst h1 <;> rcases h with h | h | h | h | h | h <;> subst h <;> rfl
theorem q_cS {s : Nat} (h : q_Sg s) : ∀ (f : Nat → Int32) (g : Nat → Int64), q_cell E X s f g = .inr (5, [.ref (E (s + 1)), .ref (E (s + 2)), .int (f 2)]) := by
  intro f g
  obtain ⟨r, hr, e⟩ := h
  subst e
  rcases hr with h1 | h1 | h1 | h1 <;> subst h1 <;> rfl
theorem q_cS1 {s : Nat} (h : q_Sg s) : ∀ (f : Nat → Int32) (g : Nat → Int64), q_cell E X (s + 1) f g = .inl (X 0, 8, .inl f) := by
  intro f g
  obtain ⟨r, hr, e⟩ := h
  subst e
  rcases hr with h1 | h1 | h1 | h1 <;> subst h1 <;> rfl
theorem q_cS2 {s : Nat} (h : q_Sg s) : ∀ (f : Nat → Int32) (g : Nat → Int64), q_cell E X (s + 2) f g = .inl (X 0, 8, .inl f) := by
  intro f g
  obtain ⟨r, hr, e⟩ := h
  subst e
  rcases hr with h1 | h1 | h1 | h1 <;> subst h1 <;> rfl
end
theorem q_bn {v : Int32} (h : v = 0 ∨ v = 1) : narrow .boolean (.int v) = .int v ∧ fits .boolean (.int v) = true := by
  rcases h with h | h <;> subst h <;> exact ⟨by decide +kernel, by decide +kernel⟩
theorem q_po {α : Type} {a b : α} (h : some a = some b) : a = b := Option.some.inj h
theorem q_ps {α β : Type} {a c : α} {b d : β} (h : some (a, b) = some (c, d)) : a = c ∧ b = d := by cases h; exact ⟨rfl, rfl⟩
theorem q_pr {α β : Type} {a c : α} {b d : β} (h : (a, b) = (c, d)) : a = c ∧ b = d := by cases h; exact ⟨rfl, rfl⟩
theorem k_acN : Cond.native arraycopyName ∈ q_tbl := q_mem 382 (by decide +kernel) (by decide +kernel)
theorem k_acS : Cond.static arraycopyName ∈ q_tbl := q_mem 381 (by decide +kernel) (by decide +kernel)
theorem k_acI : Cond.initialized "java/lang/System" ∈ q_tbl := q_mem 14 (by decide +kernel) (by decide +kernel)
