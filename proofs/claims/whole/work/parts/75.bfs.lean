/-! breadth first, abstractly: states and codes (10 times the number of acts, and the first act) -/
def nx (c w : Nat) : Nat := if c < 10 then 10 + w else c + 10
theorem nx_mono {a b w : Nat} (h : a ≤ b) (hw : w < 3) : nx a w ≤ nx b w := by
  unfold nx
  split <;> split <;> omega
theorem nx_ge {a w : Nat} : a ≤ nx a w := by
  unfold nx
  split <;> omega
/-- by n acts, with this code, to this state -/
def Wn (st : Nat → Nat → Option Nat) (s0 : Nat) : Nat → Nat → Nat → Prop
  | 0, c, s => c = 0 ∧ s = s0
  | n + 1, c, s => ∃ c' s' w, Wn st s0 n c' s' ∧ w < 3 ∧ st s' w = some s ∧ c = nx c' w
theorem Wn_10 {st : Nat → Nat → Option Nat} {s0 n c s : Nat} (h : Wn st s0 (n + 1) c s) : 10 ≤ c := by
  obtain ⟨c', s', w, _, _, _, e⟩ := h
  rw [e]
  unfold nx
  split <;> omega
def Best (st : Nat → Nat → Option Nat) (s0 : Nat) (G : Nat → Prop) (c : Nat) : Prop := (∃ n s, Wn st s0 n c s ∧ G s) ∧ ∀ n c' s, Wn st s0 n c' s → G s → c ≤ c'
def NoWay (st : Nat → Nat → Option Nat) (s0 : Nat) (G : Nat → Prop) : Prop := ∀ n c' s, Wn st s0 n c' s → ¬ G s
theorem Best_uniq {st : Nat → Nat → Option Nat} {s0 : Nat} {G : Nat → Prop} {a b : Nat} (ha : Best st s0 G a) (hb : Best st s0 G b) : a = b := by
  obtain ⟨⟨n, s, h1, h2⟩, h3⟩ := ha
  obtain ⟨⟨m, t, k1, k2⟩, k3⟩ := hb
  exact Nat.le_antisymm (h3 m b t k1 k2) (k3 n a s h1 h2)
theorem Best_no {st : Nat → Nat → Option Nat} {s0 : Nat} {G : Nat → Prop} {a : Nat} (ha : Best st s0 G a) (hb : NoWay st s0 G) : False := by
  obtain ⟨⟨n, s, h1, h2⟩, _⟩ := ha
  exact hb n a s h1 h2
/-- pigeons -/
theorem pig : ∀ (M m : Nat) (q : Nat → Nat), (∀ j, j < m → q j < M) → (∀ j k, j < m → k < m → q j = q k → j = k) → m ≤ M := by
  intro M
  induction M with
  | zero =>
    intro m q h _
    by_cases hm : m = 0
    · omega
    · have := h 0 (by omega)
      omega
  | succ M ih =>
    intro m q h hi
    by_cases hx : ∃ j, j < m ∧ q j = M
    · obtain ⟨j0, hj0, e0⟩ := hx
      have := ih (m - 1) (fun k => if k = j0 then q (m - 1) else q k) (fun k hk => by
        show (if k = j0 then q (m - 1) else q k) < M
        by_cases hkj : k = j0
        · rw [if_pos hkj]
          have a := h (m - 1) (by omega)
          have b : q (m - 1) ≠ M := fun e => by
            have := hi (m - 1) j0 (by omega) hj0 (by rw [e, e0])
            omega
          omega
        · rw [if_neg hkj]
          have a := h k (by omega)
          have b : q k ≠ M := fun e => hkj (hi k j0 (by omega) hj0 (by rw [e, e0]))
          omega) (fun j k hj hk => by
        show (if j = j0 then q (m - 1) else q j) = (if k = j0 then q (m - 1) else q k) → j = k
        intro e
        by_cases hjj : j = j0
        · by_cases hkj : k = j0
          · omega
          · rw [if_pos hjj, if_neg hkj] at e
            have := hi (m - 1) k (by omega) (by omega) e
            omega
        · by_cases hkj : k = j0
          · rw [if_neg hjj, if_pos hkj] at e
            have := hi j (m - 1) (by omega) (by omega) e
            omega
          · rw [if_neg hjj, if_neg hkj] at e
            exact hi j k (by omega) (by omega) e)
      omega
    · have := ih m q (fun j hj => by
        have a := h j hj
        have b : q j ≠ M := fun e => hx ⟨j, hj, e⟩
        omega) hi
      omega
/-- the queue q with its codes c, many of them; i of them are through, and v ways of the next -/
def BI (st : Nat → Nat → Option Nat) (s0 M : Nat) (q c : Nat → Nat) (many i v : Nat) : Prop :=
  (0 < many ∧ q 0 = s0 ∧ c 0 = 0) ∧ (∀ j, j < many → q j < M) ∧ (∀ j k, j < many → k < many → q j = q k → j = k) ∧ (∀ j, j < many → ∃ n, Wn st s0 n (c j) (q j)) ∧
  (∀ j k, j ≤ k → k < many → c j ≤ c k) ∧ (∀ j, 0 < j → j < many → 10 ≤ c j) ∧ (∀ j, j < many → c j ≤ 10 * j + 2 ∧ c j % 10 < 3) ∧
  (∀ j w s, ((j < i ∧ w < 3) ∨ (j = i ∧ w < v)) → j < many → st (q j) w = some s → ∃ k, k < many ∧ q k = s ∧ c k ≤ nx (c j) w) ∧
  (i < many → ∀ j, j < many → c j ≤ nx (c i) v)
theorem BI_start (st : Nat → Nat → Option Nat) (s0 M : Nat) (h : s0 < M) (q c : Nat → Nat) (hq : q 0 = s0) (hc : c 0 = 0) : BI st s0 M q c 1 0 0 := by
  have h1 : ∀ j, j < 1 → j = 0 := fun j hj => by omega
  refine ⟨⟨by omega, hq, hc⟩, fun j hj => by rw [h1 j hj, hq]; exact h, fun j k hj hk _ => by omega, fun j hj => ⟨0, ?_, ?_⟩, fun j k hjk hk => ?_, fun j a b => by omega, fun j hj => ?_, fun j w s a b => by omega, fun _ j hj => ?_⟩
  · rw [h1 j hj, hc]
  · rw [h1 j hj, hq]
  · rw [h1 k hk, h1 j (by omega)]
    exact Nat.le_refl _
  · rw [h1 j hj, hc]
    exact ⟨by omega, by omega⟩
  · rw [h1 j hj, hc]
    exact Nat.zero_le _
theorem BI_len {st : Nat → Nat → Option Nat} {s0 M : Nat} {q c : Nat → Nat} {many i v : Nat} (h : BI st s0 M q c many i v) : many ≤ M := pig M many q h.2.1 h.2.2.1
theorem BI_room {st : Nat → Nat → Option Nat} {s0 M : Nat} {q c : Nat → Nat} {many i v s : Nat} (h : BI st s0 M q c many i v) (hs : s < M) (hn : ∀ j, j < many → q j ≠ s) : many < M := by
  have := pig M (many + 1) (fun j => if j = many then s else q j) (fun j hj => by
    show (if j = many then s else q j) < M
    by_cases e : j = many
    · rw [if_pos e]
      exact hs
    · rw [if_neg e]
      exact h.2.1 j (by omega)) (fun j k hj hk => by
    show (if j = many then s else q j) = (if k = many then s else q k) → j = k
    intro e
    by_cases e1 : j = many
    · by_cases e2 : k = many
      · omega
      · rw [if_pos e1, if_neg e2] at e
        exact absurd e.symm (hn k (by omega))
    · by_cases e2 : k = many
      · rw [if_neg e1, if_pos e2] at e
        exact absurd e (hn j (by omega))
      · rw [if_neg e1, if_neg e2] at e
        exact h.2.2.1 j k (by omega) (by omega) e)
  omega
theorem BI_skip {st : Nat → Nat → Option Nat} {s0 M : Nat} {q c : Nat → Nat} {many i v : Nat} (h : BI st s0 M q c many i v) (hi : i < many) (hs : ∀ s, st (q i) v = some s → ∃ k, k < many ∧ q k = s) : BI st s0 M q c many i (v + 1) := by
  obtain ⟨h0, h1, h2, h3, h4, h5, h6, h7, h8⟩ := h
  refine ⟨h0, h1, h2, h3, h4, h5, h6, fun j w s hj hm e => ?_, fun _ j hj => ?_⟩
  · by_cases hjw : j = i ∧ w = v
    · obtain ⟨rfl, rfl⟩ := hjw
      obtain ⟨k, hk, ek⟩ := hs s e
      exact ⟨k, hk, ek, h8 hi k hk⟩
    · exact h7 j w s (by omega) hm e
  · have := h8 hi j hj
    refine Nat.le_trans this ?_
    unfold nx
    split <;> omega
theorem BI_push {st : Nat → Nat → Option Nat} {s0 M : Nat} {q c : Nat → Nat} {many i v s : Nat} (h : BI st s0 M q c many i v) (hi : i < many) (hv : v < 3) (hs : st (q i) v = some s) (hM : s < M) (hn : ∀ j, j < many → q j ≠ s) (q' c' : Nat → Nat) (hq : ∀ j, j < many → q' j = q j) (hq2 : q' many = s) (hc : ∀ j, j < many → c' j = c j) (hc2 : c' many = nx (c i) v) : BI st s0 M q' c' (many + 1) i (v + 1) := by
  obtain ⟨h0, h1, h2, h3, h4, h5, h6, h7, h8⟩ := h
  have hup := h8 hi
  have lt : ∀ j, j < many + 1 → j ≠ many → j < many := fun j a b => by omega
  refine ⟨⟨by omega, by rw [hq 0 h0.1]; exact h0.2.1, by rw [hc 0 h0.1]; exact h0.2.2⟩, fun j hj => ?_, fun j k hj hk e => ?_, fun j hj => ?_, fun j k hjk hk => ?_, fun j a b => ?_, fun j hj => ?_, fun j w s' hj hm e => ?_, fun _ j hj => ?_⟩
  · by_cases e : j = many
    · rw [e, hq2]
      exact hM
    · rw [hq j (lt j hj e)]
      exact h1 j (lt j hj e)
  · by_cases e1 : j = many
    · by_cases e2 : k = many
      · omega
      · rw [e1, hq2, hq k (lt k hk e2)] at e
        exact absurd e.symm (hn k (lt k hk e2))
    · by_cases e2 : k = many
      · rw [e2, hq2, hq j (lt j hj e1)] at e
        exact absurd e (hn j (lt j hj e1))
      · rw [hq j (lt j hj e1), hq k (lt k hk e2)] at e
        exact h2 j k (lt j hj e1) (lt k hk e2) e
  · by_cases e : j = many
    · rw [e, hq2, hc2]
      obtain ⟨n, hn2⟩ := h3 i hi
      exact ⟨n + 1, c i, q i, v, hn2, hv, hs, rfl⟩
    · rw [hq j (lt j hj e), hc j (lt j hj e)]
      exact h3 j (lt j hj e)
  · by_cases e : k = many
    · by_cases e2 : j = many
      · rw [e, e2]
        exact Nat.le_refl _
      · rw [e, hc2, hc j (by omega)]
        exact hup j (by omega)
    · rw [hc j (by omega), hc k (by omega)]
      exact h4 j k hjk (by omega)
  · by_cases e : j = many
    · rw [e, hc2]
      unfold nx
      split <;> omega
    · rw [hc j (by omega)]
      exact h5 j a (by omega)
  · by_cases e : j = many
    · have a := h6 i hi
      rw [e, hc2]
      unfold nx
      split <;> constructor <;> omega
    · rw [hc j (by omega)]
      exact h6 j (by omega)
  · have hji : j < many := by omega
    rw [hq j hji] at e
    rw [hc j hji]
    by_cases hjw : j = i ∧ w = v
    · obtain ⟨rfl, rfl⟩ := hjw
      rw [hs] at e
      refine ⟨many, by omega, ?_, by rw [hc2]; exact Nat.le_refl _⟩
      rw [hq2]
      exact Option.some.inj e
    · obtain ⟨k, k1, k2, k3⟩ := h7 j w s' (by omega) hji e
      exact ⟨k, by omega, by rw [hq k k1]; exact k2, by rw [hc k k1]; exact k3⟩
  · rw [hc i hi]
    have hst : nx (c i) v ≤ nx (c i) (v + 1) := by
      unfold nx
      split <;> omega
    by_cases e : j = many
    · rw [e, hc2]
      exact hst
    · rw [hc j (by omega)]
      exact Nat.le_trans (hup j (by omega)) hst
theorem BI_next {st : Nat → Nat → Option Nat} {s0 M : Nat} {q c : Nat → Nat} {many i : Nat} (h : BI st s0 M q c many i 3) (hi : i < many) : BI st s0 M q c many (i + 1) 0 := by
  obtain ⟨h0, h1, h2, h3, h4, h5, h6, h7, h8⟩ := h
  refine ⟨h0, h1, h2, h3, h4, h5, h6, fun j w s hj hm e => h7 j w s (by omega) hm e, fun hi1 j hj => ?_⟩
  have a := h8 hi j hj
  have b := h5 (i + 1) (by omega) hi1
  have d := h4 i (i + 1) (by omega) hi1
  unfold nx at *
  rw [if_neg (by omega)]
  split at a <;> omega
theorem BI_path {st : Nat → Nat → Option Nat} {s0 M : Nat} {q c : Nat → Nat} {many i v : Nat} (h : BI st s0 M q c many i v) : ∀ n cc s, Wn st s0 n cc s → (∃ k, k < i ∧ k < many ∧ q k = s ∧ c k ≤ cc) ∨ (i < many ∧ c i ≤ cc) := by
  obtain ⟨h0, h1, h2, h3, h4, h5, h6, h7, h8⟩ := h
  intro n
  induction n with
  | zero =>
    intro cc s hw
    obtain ⟨rfl, rfl⟩ := hw
    by_cases hi : i = 0
    · exact Or.inr ⟨by omega, by rw [hi, h0.2.2]; exact Nat.le_refl _⟩
    · exact Or.inl ⟨0, by omega, h0.1, h0.2.1, by rw [h0.2.2]; exact Nat.le_refl _⟩
  | succ n ih =>
    intro cc s hw
    obtain ⟨c', s', w, hw', hw3, hst, rfl⟩ := hw
    rcases ih c' s' hw' with ⟨k, k1, k2, k3, k4⟩ | ⟨k1, k2⟩
    · subst k3
      obtain ⟨k', l1, l2, l3⟩ := h7 k w s (Or.inl ⟨k1, hw3⟩) k2 hst
      have l4 := Nat.le_trans l3 (nx_mono k4 hw3)
      by_cases hk : k' < i
      · exact Or.inl ⟨k', hk, l1, l2, l4⟩
      · exact Or.inr ⟨by omega, Nat.le_trans (h4 i k' (by omega) l1) l4⟩
    · exact Or.inr ⟨k1, Nat.le_trans k2 nx_ge⟩
/-- found when it is taken out of the queue -/
theorem BI_out {st : Nat → Nat → Option Nat} {s0 M : Nat} {q c : Nat → Nat} {many i : Nat} {G : Nat → Prop} (h : BI st s0 M q c many i 0) (hi : i < many) (hn : ∀ j, j < i → ¬ G (q j)) (hg : G (q i)) : Best st s0 G (c i) := by
  obtain ⟨n, hw⟩ := h.2.2.2.1 i hi
  refine ⟨⟨n, q i, hw, hg⟩, fun n c' s hw hs => ?_⟩
  rcases BI_path h n c' s hw with ⟨k, k1, k2, k3, k4⟩ | ⟨k1, k2⟩
  · rw [← k3] at hs
    exact absurd hs (hn k k1)
  · exact k2
/-- found when it is made -/
theorem BI_made {st : Nat → Nat → Option Nat} {s0 M : Nat} {q c : Nat → Nat} {many i v g : Nat} {G : Nat → Prop} (h : BI st s0 M q c many i v) (hi : i < many) (hv : v < 3) (hn : ∀ j, j < many → ¬ G (q j)) (hs : st (q i) v = some g) (hg : G g) : Best st s0 G (nx (c i) v) := by
  obtain ⟨n, hw⟩ := h.2.2.2.1 i hi
  refine ⟨⟨n + 1, g, ⟨c i, q i, v, hw, hv, hs, rfl⟩, hg⟩, fun n c' s hw hgs => ?_⟩
  have hp := BI_path h
  obtain ⟨h0, h1, h2, h3, h4, h5, h6, h7, h8⟩ := h
  cases n with
  | zero =>
    obtain ⟨_, rfl⟩ := hw
    rw [← h0.2.1] at hgs
    exact absurd hgs (hn 0 h0.1)
  | succ n =>
    obtain ⟨c'', s', w, hw', hw3, hst, rfl⟩ := hw
    rcases hp n c'' s' hw' with ⟨k, k1, k2, k3, k4⟩ | ⟨k1, k2⟩
    · subst k3
      obtain ⟨k', l1, l2, l3⟩ := h7 k w s (Or.inl ⟨k1, hw3⟩) k2 hst
      rw [← l2] at hgs
      exact absurd hgs (hn k' l1)
    · by_cases hc : c'' < 10
      · cases n with
        | succ n =>
          have := Wn_10 hw'
          omega
        | zero =>
          obtain ⟨rfl, rfl⟩ := hw'
          have hi0 : i = 0 := by
            by_cases hi0 : i = 0
            · exact hi0
            · have := h5 i (by omega) hi
              omega
          subst hi0
          by_cases hwv : w < v
          · rw [← h0.2.1] at hst
            obtain ⟨k', l1, l2, l3⟩ := h7 0 w s (Or.inr ⟨rfl, hwv⟩) h0.1 hst
            rw [← l2] at hgs
            exact absurd hgs (hn k' l1)
          · rw [h0.2.2]
            show 10 + v ≤ 10 + w
            omega
      · unfold nx
        rw [if_neg hc]
        split <;> omega
theorem BI_none {st : Nat → Nat → Option Nat} {s0 M : Nat} {q c : Nat → Nat} {many i v : Nat} {G : Nat → Prop} (h : BI st s0 M q c many i v) (hi : many ≤ i) (hn : ∀ j, j < many → ¬ G (q j)) : NoWay st s0 G := by
  intro n c' s hw hs
  rcases BI_path h n c' s hw with ⟨k, k1, k2, k3, k4⟩ | ⟨k1, k2⟩
  · rw [← k3] at hs
    exact hn k k2 hs
  · omega
/-- a graph and its quotient -/
theorem Wn_map {st su : Nat → Nat → Option Nat} {s0 : Nat} {M : Nat} (π : Nat → Nat) (h0 : s0 < M) (hM : ∀ s w s', s < M → w < 3 → st s w = some s' → s' < M) (hs : ∀ s w, s < M → w < 3 → su (π s) w = (st s w).map π) : ∀ n c, (∀ s, Wn st s0 n c s → s < M ∧ Wn su (π s0) n c (π s)) ∧ (∀ p, Wn su (π s0) n c p → ∃ s, s < M ∧ π s = p ∧ Wn st s0 n c s) := by
  intro n
  induction n with
  | zero =>
    intro c
    constructor
    · intro s h
      obtain ⟨rfl, rfl⟩ := h
      exact ⟨h0, rfl, rfl⟩
    · intro p h
      obtain ⟨rfl, rfl⟩ := h
      exact ⟨s0, h0, rfl, rfl, rfl⟩
  | succ n ih =>
    intro c
    constructor
    · intro s h
      obtain ⟨c', s', w, hw, hw3, hst, e⟩ := h
      obtain ⟨i1, i2⟩ := (ih c').1 s' hw
      refine ⟨hM s' w s i1 hw3 hst, c', π s', w, i2, hw3, ?_, e⟩
      rw [hs s' w i1 hw3, hst]
      rfl
    · intro p h
      obtain ⟨c', p', w, hw, hw3, hst, e⟩ := h
      obtain ⟨s', i1, i2, i3⟩ := (ih c').2 p' hw
      subst i2
      rw [hs s' w i1 hw3] at hst
      cases hq : st s' w with
      | none =>
        rw [hq] at hst
        cases hst
      | some s =>
        rw [hq] at hst
        refine ⟨s, hM s' w s i1 hw3 hq, Option.some.inj hst, c', s', w, i3, hw3, hq, e⟩
theorem Best_map {st su : Nat → Nat → Option Nat} {s0 : Nat} {M : Nat} (π : Nat → Nat) (h0 : s0 < M) (hM : ∀ s w s', s < M → w < 3 → st s w = some s' → s' < M) (hs : ∀ s w, s < M → w < 3 → su (π s) w = (st s w).map π) {G H : Nat → Prop} (hG : ∀ s, s < M → (H (π s) ↔ G s)) {c : Nat} (h : Best su (π s0) H c) : Best st s0 G c := by
  have hw := Wn_map π h0 hM hs
  obtain ⟨⟨n, p, h1, h2⟩, h3⟩ := h
  obtain ⟨s, k1, k2, k3⟩ := (hw n c).2 p h1
  refine ⟨⟨n, s, k3, (hG s k1).mp (by rw [k2]; exact h2)⟩, fun n c' s hw' hg => ?_⟩
  obtain ⟨l1, l2⟩ := (hw n c').1 s hw'
  exact h3 n c' (π s) l2 ((hG s l1).mpr hg)
theorem NoWay_map {st su : Nat → Nat → Option Nat} {s0 : Nat} {M : Nat} (π : Nat → Nat) (h0 : s0 < M) (hM : ∀ s w s', s < M → w < 3 → st s w = some s' → s' < M) (hs : ∀ s w, s < M → w < 3 → su (π s) w = (st s w).map π) {G H : Nat → Prop} (hG : ∀ s, s < M → (H (π s) ↔ G s)) (h : NoWay su (π s0) H) : NoWay st s0 G := by
  have hw := Wn_map π h0 hM hs
  intro n c' s hw' hg
  obtain ⟨l1, l2⟩ := (hw n c').1 s hw'
  exact h n c' (π s) l2 ((hG s l1).mpr hg)
