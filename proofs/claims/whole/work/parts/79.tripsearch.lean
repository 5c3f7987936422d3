/-! trip: the class's search, its loops -/
def CF (la gp p0 goal : Nat) (σ0 σ : q_S) (cc : Nat) : Prop := (∀ p, p ≠ 74 → p ≠ 75 → p ≠ 76 → σ.1 p = σ0.1 p) ∧ σ.1 74 3 = nI (cc / 10) ∧ σ.1 74 4 = nI (cc % 10) ∧ cc < 100000 ∧ Best (stC la gp) p0 (fun p => p / 3 ^ la = goal) cc
theorem CS_push {σ0 σ : q_S} {q c : Nat → Nat} {many p cc : Nat} (h : CS σ0 σ q c many) (hp : p < 4860) (hn : ∀ j, j < many → q j ≠ p) (qq ccf : Nat → Nat) (hq1 : ∀ j, j < many → qq j = q j) (hq2 : qq many = p) (hc1 : ∀ j, j < many → ccf j = c j) (hc2 : ccf many = cc) : CS σ0 (q_w (q_w (q_w σ 76 (p / 32) (σ.1 76 (p / 32) ||| btI (p % 32))) 75 many (nI (p + 8192 * (cc % 10) + 32768 * (cc / 10)))) 74 2 (nI (many + 1))) qq ccf (many + 1) := by
  obtain ⟨h1, h2, h3, h4, h5, h6⟩ := h
  refine ⟨fun x a b d => ?_, ?_, ?_, ?_, fun j hj => ?_, fun s hs => ?_⟩
  · rw [s_wn _ _ _ _ a, s_wn _ _ _ _ b, s_wn _ _ _ _ d]
    exact h1 x a b d
  · rw [s_w1, s_u1]
  · rw [s_w1, s_un _ _ _ (by decide), s_wn _ _ _ _ (by decide), s_wn _ _ _ _ (by decide)]
    exact h3
  · rw [s_w1, s_un _ _ _ (by decide), s_wn _ _ _ _ (by decide), s_wn _ _ _ _ (by decide)]
    exact h4
  · rw [s_wn _ _ _ _ (by decide), s_w1]
    by_cases e : j = many
    · rw [e, s_u1, hq2, hc2]
      rfl
    · rw [s_un _ _ _ e, s_wn _ _ _ _ (by decide), hq1 j (by omega), hc1 j (by omega)]
      exact h5 j (by omega)
  · rw [s_wn _ _ _ _ (by decide), s_wn _ _ _ _ (by decide), s_w1]
    have hold := h6 s hs
    by_cases e : s = p
    · subst e
      rw [s_u1, b_or1]
      constructor
      · intro q
        exact absurd q (b_ne ⟨s % 32, by omega⟩)
      · intro q
        exact absurd hq2 (q many (by omega))
    · have hnew : (∀ j, j < many + 1 → qq j ≠ s) ↔ (∀ j, j < many → q j ≠ s) := by
        constructor
        · intro a j hj
          rw [← hq1 j hj]
          exact a j (by omega)
        · intro a j hj
          by_cases ej : j = many
          · rw [ej, hq2]
            exact fun q => e q.symm
          · rw [hq1 j (by omega)]
            exact a j (by omega)
      rw [hnew, ← hold]
      by_cases ew : s / 32 = p / 32
      · rw [ew, s_u1]
        rcases b_dis ⟨p % 32, by omega⟩ ⟨s % 32, by omega⟩ with z | z
        · have z2 : p % 32 = s % 32 := z
          omega
        · rw [b_or2 _ _ _ z]
      · rw [s_un _ _ _ ew]
theorem c_ways (N : Nat) (hN : 5 < N) (la : Nat) (hla : la ≤ 5) (gp : Nat) (hg : gp < 20) (goal : Nat) (hgo : goal < 20) (k46 : Int32 → q_S → Option q_S) (pw : Nat) (hpw : pw < 74) (σ0 : q_S) (hlate : σ0.1 pw 1 = nI la) (p0 i : Nat) : ∀ (d v m : Nat) (σ : q_S) (q c : Nat → Nat) (many : Nat), v + d = 3 → d < m → i < many → CS σ0 σ q c many → BI (stC la gp) p0 (20 * 3 ^ la) q c many i v → (∀ j, j < many → ¬ q j / 3 ^ la = goal) → (∃ σ' q' c' many', f_X7_search_75 N k46 pw (nI goal) (nI gp) (nI i) m (nI v) σ = k46 (nI (i + 1)) σ' ∧ CS σ0 σ' q' c' many' ∧ BI (stC la gp) p0 (20 * 3 ^ la) q' c' many' i 3 ∧ many ≤ many' ∧ ∀ j, j < many' → ¬ q' j / 3 ^ la = goal) ∨ (∃ σ' cc, f_X7_search_75 N k46 pw (nI goal) (nI gp) (nI i) m (nI v) σ = k46 (nI (i + 1)) σ' ∧ CF la gp p0 goal σ0 σ' cc) := by
  obtain ⟨w1, w2⟩ := pw_le hla
  intro d
  induction d with
  | zero =>
    intro v m σ q c many h1 h2 h3 h4 h5 h6
    obtain ⟨m, rfl⟩ : ∃ m', m = m' + 1 := ⟨m - 1, by omega⟩
    have e : v = 3 := by omega
    subst e
    exact Or.inl ⟨σ, q, c, many, by rw [f_X7_search_75, if_pos (show (3 : Int32) ≤ nI 3 by decide), nI_1], h4, h5, Nat.le_refl _, h6⟩
  | succ d ih =>
    intro v m σ q c many h1 h2 h3 h4 h5 h6
    obtain ⟨m, rfl⟩ : ∃ m', m = m' + 1 := ⟨m - 1, by omega⟩
    have hv : v < 3 := by omega
    have hq : q i < 20 * 3 ^ la := h5.2.1 i h3
    have hml : many ≤ 20 * 3 ^ la := BI_len h5
    obtain ⟨hcb, hc3⟩ := h5.2.2.2.2.2.2.1 i h3
    have hl : σ.1 pw 1 = nI la := by
      rw [h4.1 pw (by omega) (by omega) (by omega)]
      exact hlate
    rw [f_X7_search_75, if_neg (show ¬ (3 : Int32) ≤ nI v from nI_ge (b := 3) hv (by decide)), if_pos h4.2.2.1, if_pos (nI_in (show i < 4860 by omega) (by decide)), nI_clamp (show i < _ by omega), h4.2.2.2.2.1 i h3, hl, c_try N hN la hla gp hg goal hgo (q i) hq (c i) (by omega) hc3 v hv σ, nI_1]
    cases hst : stC la gp (q i) v with
    | none =>
      exact ih (v + 1) m σ q c many (by omega) (by omega) h3 h4 (BI_skip h5 h3 (fun s e => by rw [hst] at e; cases e)) h6
    | some s =>
      obtain ⟨hsl, hsl2⟩ := stC_lt hla hst
      obtain ⟨n1, n2⟩ := nx_10 (c := c i) hv
      have hnx3 : nx (c i) v % 10 < 3 := by
        rw [n2]
        split <;> omega
      have hnxb : nx (c i) v < 100000 := by
        unfold nx
        split <;> omega
      simp only [Option.elim_some]
      by_cases hgl : s / 3 ^ la = goal
      · right
        rw [if_pos hgl]
        simp only [Option.bind_some]
        refine ⟨q_w (q_w σ 74 3 (nI (nx (c i) v / 10))) 74 4 (nI (nx (c i) v % 10)), nx (c i) v, ?_, fun x a b e => ?_, ?_, ?_, hnxb, BI_made (G := fun p => p / 3 ^ la = goal) h5 h3 hv h6 hst hgl⟩
        · obtain ⟨m, rfl⟩ : ∃ m', m = m' + 1 := ⟨m - 1, by omega⟩
          rw [f_X7_search_75, s_w1, s_un _ _ _ (by decide), s_w1, s_u1, if_neg (nI_m6 (by omega)), ite_self, nI_1]
        · rw [s_wn _ _ _ _ a, s_wn _ _ _ _ a]
          exact h4.1 x a b e
        · rw [s_w1, s_un _ _ _ (by decide), s_w1, s_u1]
        · rw [s_w1, s_u1]
      · rw [if_neg hgl]
        by_cases hvis : ∃ j, j < many ∧ q j = s
        · have hvis2 : ¬ (σ.1 76 (s / 32) &&& btI (s % 32)) = 0 := fun e => by
            obtain ⟨j, hj, ej⟩ := hvis
            exact (h4.2.2.2.2.2 s hsl2).mp e j hj ej
          rw [c_offV hsl2 _ _ σ hvis2]
          simp only [Option.bind_some]
          exact ih (v + 1) m σ q c many (by omega) (by omega) h3 h4 (BI_skip h5 h3 (fun s' e => by rw [hst] at e; obtain ⟨j, hj, ej⟩ := hvis; exact ⟨j, hj, by rw [ej]; exact Option.some.inj e⟩)) h6
        · have hnv : ∀ j, j < many → q j ≠ s := fun j hj e => hvis ⟨j, hj, e⟩
          have hroom : many < 20 * 3 ^ la := BI_room h5 hsl hnv
          rw [c_offN hsl2 (show nx (c i) v % 10 < 4 by omega) (show nx (c i) v / 10 < 32768 by omega) (show many < 4860 by omega) σ h4.2.1 ((h4.2.2.2.2.2 s hsl2).mpr hnv)]
          simp only [Option.bind_some]
          obtain ⟨qq, hq1, hq2⟩ : ∃ qq : Nat → Nat, (∀ j, j < many → qq j = q j) ∧ qq many = s := ⟨fun j => if j = many then s else q j, fun j hj => if_neg (by omega), if_pos rfl⟩
          obtain ⟨cf, hc1, hc2⟩ : ∃ cf : Nat → Nat, (∀ j, j < many → cf j = c j) ∧ cf many = nx (c i) v := ⟨fun j => if j = many then nx (c i) v else c j, fun j hj => if_neg (by omega), if_pos rfl⟩
          have hB := BI_push h5 h3 hv hst hsl hnv qq cf hq1 hq2 hc1 hc2
          have hC := CS_push h4 hsl2 hnv qq cf hq1 hq2 hc1 hc2
          have h6' : ∀ j, j < many + 1 → ¬ qq j / 3 ^ la = goal := fun j hj => by
            by_cases e : j = many
            · rw [e, hq2]
              exact hgl
            · rw [hq1 j (by omega)]
              exact h6 j (by omega)
          rcases ih (v + 1) m _ qq cf (many + 1) (by omega) (by omega) (by omega) hC hB h6' with ⟨σ', q', c', many', e1, e2, e3, e4, e5⟩ | hf
          · exact Or.inl ⟨σ', q', c', many', e1, e2, e3, by omega, e5⟩
          · exact Or.inr hf
theorem c_search (N : Nat) (hN : 5 < N) (la : Nat) (hla : la ≤ 5) (gp : Nat) (hg : gp < 20) (goal : Nat) (hgo : goal < 20) (pw : Nat) (hpw : pw < 74) (σ0 : q_S) (hlate : σ0.1 pw 1 = nI la) (p0 : Nat) : ∀ (d i m : Nat) (σ : q_S) (q c : Nat → Nat) (many : Nat), i + d = 4861 → d < m → i ≤ many → CS σ0 σ q c many → BI (stC la gp) p0 (20 * 3 ^ la) q c many i 0 → (∀ j, j < many → ¬ q j / 3 ^ la = goal) → ∃ σ', f_X7_search_46 N pw (nI goal) (nI gp) m (nI i) σ = some σ' ∧ ((∃ cc, CF la gp p0 goal σ0 σ' cc) ∨ ((∀ p, p ≠ 74 → p ≠ 75 → p ≠ 76 → σ'.1 p = σ0.1 p) ∧ σ'.1 74 3 = -6 ∧ σ'.1 74 4 = -6 ∧ NoWay (stC la gp) p0 (fun p => p / 3 ^ la = goal))) := by
  obtain ⟨w1, w2⟩ := pw_le hla
  intro d
  induction d with
  | zero =>
    intro i m σ q c many h1 h2 h3 h4 h5 h6
    have := BI_len h5
    omega
  | succ d ih =>
    intro i m σ q c many h1 h2 h3 h4 h5 h6
    obtain ⟨m, rfl⟩ : ∃ m', m = m' + 1 := ⟨m - 1, by omega⟩
    have hml : many ≤ 20 * 3 ^ la := BI_len h5
    by_cases him : many ≤ i
    · refine ⟨σ, ?_, Or.inr ⟨h4.1, h4.2.2.1, h4.2.2.2.1, BI_none (G := fun p => p / 3 ^ la = goal) h5 him h6⟩⟩
      rw [f_X7_search_46, h4.2.1, if_pos (nI_le him (by omega)), ite_self]
    · have hi : i < many := by omega
      rw [f_X7_search_46, h4.2.1, if_neg (show ¬ (4860 : Int32) ≤ nI i from nI_ge (b := 4860) (by omega) (by decide)), if_neg (nI_ge hi (by omega)), if_pos h4.2.2.1]
      have hw := c_ways N hN la hla gp hg goal hgo (fun x5 σ => f_X7_search_46 N pw (nI goal) (nI gp) m x5 σ) pw hpw σ0 hlate p0 i 3 0 N σ q c many (by omega) (by omega) hi h4 h5 h6
      rw [nI_0] at hw
      rcases hw with ⟨σ', q', c', many', e1, e2, e3, e4, e5⟩ | ⟨σ', cc, e1, e2⟩
      · rw [e1]
        exact ih (i + 1) m σ' q' c' many' (by omega) (by omega) (by omega) e2 (BI_next e3 (by omega)) e5
      · rw [e1]
        refine ⟨σ', ?_, Or.inl ⟨cc, e2⟩⟩
        obtain ⟨m, rfl⟩ : ∃ m', m = m' + 1 := ⟨m - 1, by omega⟩
        have hcc := e2.2.2.2.1
        show f_X7_search_46 N pw (nI goal) (nI gp) (m + 1) (nI (i + 1)) σ' = some σ'
        rw [f_X7_search_46, e2.2.1, if_neg (nI_m6 (by omega)), ite_self, ite_self]
