/-! the loop of the telling -/
theorem s_inv0 (N : Nat) (σ : q_S) (c : Nat) (hc : c ≤ 60) (h1 : σ.1 69 1 = nI c) (p : Nat) (hp : p < c) (m : Nat) (h : f_X2_firstFault_4 N σ m 0 (nI p) = some (-6)) :
    ((σ.1 70 p = 126 ∨ σ.1 70 p = 46) ∧ f_X2_isLetter (σ.1 70 p) = 0 ∧ ∃ m', f_X2_firstFault_4 N σ m' 0 (nI (p + 1)) = some (-6)) ∨ (∃ l, l < 6 ∧ σ.1 70 p = nI (65 + l) ∧ p + 1 < c ∧ (σ.1 70 (p + 1) = 60 ∨ σ.1 70 (p + 1) = 62 ∨ σ.1 70 (p + 1) = 61 ∨ σ.1 70 (p + 1) = 42) ∧ ∃ m', f_X2_firstFault_4 N σ m' 0 (nI (p + 2)) = some (-6)) := by
  have no : ∀ j, j ≤ 60 → ¬ some (nI j) = some (-6 : Int32) := by
    intro j hj e
    have := congrArg Int32.toInt (Option.some.inj e)
    rw [nI_toInt (by omega)] at this
    have h0 : (-6 : Int32).toInt = -6 := rfl
    omega
  cases m with
  | zero => cases h
  | succ m =>
    rw [f_X2_firstFault_4, h1, if_neg (nI_ge hp (by omega)), if_neg (s_60 (show p < 60 by omega)), if_pos rfl, if_pos (nI_in (show p < 60 by omega) (by decide)), nI_clamp (by omega)] at h
    unfold f_X2_firstFault_63 at h
    rw [nI_clamp (by omega), if_pos (s_ik (show p < 60 by omega) (by decide)), nI_1] at h
    rcases rb_X2_isLetter (σ.1 70 p) with hl | hl
    · left
      rw [hl, if_pos rfl] at h
      unfold f_X2_isAlone at h
      by_cases e1 : σ.1 70 p = 126
      · rw [if_pos e1, if_neg (by decide), if_neg (by decide)] at h
        exact ⟨Or.inl e1, hl, m, h⟩
      · by_cases e2 : σ.1 70 p = 46
        · rw [if_neg e1, if_pos e2, if_neg (by decide), if_neg (by decide)] at h
          exact ⟨Or.inr e2, hl, m, h⟩
        · rw [if_neg e1, if_neg e2, if_pos rfl, if_pos rfl] at h
          exact absurd h (no p (by omega))
    · right
      rw [hl, if_neg (by decide), if_neg (by decide)] at h
      have hl2 : ∃ l, l < 6 ∧ σ.1 70 p = nI (65 + l) := by
        unfold f_X2_isLetter at hl
        rw [s_wI] at hl
        by_cases hr : 65 ≤ σ.1 70 p ∧ σ.1 70 p ≤ 70
        · obtain ⟨r1, r2⟩ := hr
          rw [Int32.le_iff_toInt_le] at r1 r2
          have a1 : (65 : Int32).toInt = 65 := rfl
          have a2 : (70 : Int32).toInt = 70 := rfl
          refine ⟨(σ.1 70 p).toInt.toNat - 65, by omega, ?_⟩
          apply Int32.toInt_inj.mp
          rw [nI_toInt (by omega)]
          omega
        · rw [if_neg hr] at hl
          exact absurd hl (by decide)
      obtain ⟨l, hl6, hls⟩ := hl2
      cases m with
      | zero => cases h
      | succ m =>
        replace h : f_X2_firstFault_4 N σ (m + 1) 1 (nI (p + 1)) = some (-6) := h
        rw [f_X2_firstFault_4, h1] at h
        by_cases hp1 : p + 1 < c
        · rw [if_neg (nI_ge hp1 (by omega)), if_neg (s_60 (show p + 1 < 60 by omega)), if_neg (by decide), if_pos (nI_in (show p + 1 < 60 by omega) (by decide)), nI_clamp (by omega)] at h
          unfold f_X2_firstFault_63 at h
          rw [nI_clamp (by omega), if_pos (s_ik (show p + 1 < 60 by omega) (by decide)), nI_1] at h
          unfold f_X2_isDeed at h
          have fin : ∀ v, σ.1 70 (p + 1) = v → f_X2_isLetter v = 0 → f_X2_firstFault_4 N σ m (f_X2_isLetter (σ.1 70 (p + 1))) (nI (p + 1 + 1)) = some (-6) → ∃ m', f_X2_firstFault_4 N σ m' 0 (nI (p + 2)) = some (-6) := fun v e1 e2 e3 => ⟨m, by rw [e1, e2] at e3; exact e3⟩
          by_cases e60 : σ.1 70 (p + 1) = 60
          · rw [if_pos e60, if_neg (by decide)] at h
            exact ⟨l, hl6, hls, hp1, Or.inl e60, fin 60 e60 (by decide) h⟩
          · by_cases e62 : σ.1 70 (p + 1) = 62
            · rw [if_neg e60, if_pos e62, if_neg (by decide)] at h
              exact ⟨l, hl6, hls, hp1, Or.inr (Or.inl e62), fin 62 e62 (by decide) h⟩
            · by_cases e61 : σ.1 70 (p + 1) = 61
              · rw [if_neg e60, if_neg e62, if_pos e61, if_neg (by decide)] at h
                exact ⟨l, hl6, hls, hp1, Or.inr (Or.inr (Or.inl e61)), fin 61 e61 (by decide) h⟩
              · by_cases e42 : σ.1 70 (p + 1) = 42
                · rw [if_neg e60, if_neg e62, if_neg e61, if_pos e42, if_neg (by decide)] at h
                  exact ⟨l, hl6, hls, hp1, Or.inr (Or.inr (Or.inr e42)), fin 42 e42 (by decide) h⟩
                · rw [if_neg e60, if_neg e62, if_neg e61, if_neg e42, if_pos rfl] at h
                  exact absurd h (no (p + 1) (by omega))
        · have e : p + 1 = c := by omega
          rw [e, if_pos (nI_le (Nat.le_refl _) (by omega)), if_neg (by decide)] at h
          exact absurd h (no c hc)
theorem s_61bar (N m : Nat) (x3 x4 : Int32) (σ : q_S) (h : ¬ σ.1 71 4 = -6) : f_X6_tell_61 N (m + 1) x3 x4 σ = some (q_w σ 71 2 0) := by
  rw [f_X6_tell_61]
  unfold f_X6_tell_132
  rw [if_neg h, if_neg h, ite_self, ite_self, ite_self, ite_self]
/-- what comes out -/
def Out (σ τ : q_S) (A : Option q_S) (B : Option (Int32 × q_S)) : Prop := ∃ σ' τ', A = some σ' ∧ FT σ σ' ∧ FD τ τ' ∧ σ'.1 71 1 = 0 ∧ ((B = some (-6, τ') ∧ σ'.1 71 2 = 1 ∧ σ'.1 71 4 = -6 ∧ σ'.1 71 5 = -6 ∧ DR σ' τ' ∧ σ'.1 71 3 = τ'.1 84 13 ∧ σ'.1 71 6 = τ'.1 84 10 ∧ σ'.1 71 7 = τ'.1 84 11) ∨ (∃ a r, a < 61 ∧ B = some (nI a, τ') ∧ σ'.1 71 2 = 0 ∧ σ'.1 71 4 = nI a ∧ σ'.1 71 5 = r ∧ τ'.1 84 12 = r))
theorem Out_tr {σ σ1 τ τ1 : q_S} {A : Option q_S} {B : Option (Int32 × q_S)} (h : Out σ1 τ1 A B) (h1 : FT σ σ1) (h2 : FD τ τ1) : Out σ τ A B := by
  obtain ⟨σ', τ', a1, a2, a3, a4⟩ := h
  exact ⟨σ', τ', a1, FT_tr h1 a2, FD_tr h2 a3, a4⟩
theorem nI_n6 {j : Nat} (hj : j ≤ 60) : ¬ nI j = (-6 : Int32) := by
  intro e
  have := congrArg Int32.toInt e
  rw [nI_toInt (by omega)] at this
  have h0 : (-6 : Int32).toInt = -6 := rfl
  omega
/-- one act, then the rest -/
theorem s_then1 {σ τ : q_S} {a : Nat} (ha : a < 61) {A : Option q_S} {M : (Int32 → q_S → Option (Int32 × q_S)) → Option (Int32 × q_S)} {x : Int32} (h : Act1 σ τ a A M x) (N m : Nat) (x3 : Int32) (k : Int32 → q_S → Option (Int32 × q_S)) (ih : ∀ σ' τ', TLS σ' τ' (a + 1) → FT σ σ' → FD τ τ' → Out σ' τ' (f_X6_tell_61 N (m + 1) x3 (x + 1) σ') (k (x + 1) τ')) : Out σ τ (A.bind fun z => f_X6_tell_61 N (m + 1) x3 (x + 1) z) (M k) := by
  rcases h with ⟨σ', τ', a1, a2, a3, a4, a5⟩ | ⟨r, σ', τ', a1, a2, a3, a4, a5, a6, a7, a8⟩
  · rw [a1, a2]
    exact Out_tr (ih σ' τ' a3 a4 a5) a4 a5
  · rw [a1, a2]
    simp only [Option.bind_some]
    have h4 : ¬ σ'.1 71 4 = -6 := by rw [a6]; exact nI_n6 (by omega)
    rw [s_61bar N m x3 (x + 1) σ' h4]
    exact ⟨_, τ', rfl, FT_tr a3 (FT_w _ _ _), a4, a5, Or.inr ⟨a, r, ha, rfl, rfl, a6, a7, a8⟩⟩
theorem s_tellLoop (n : Nat) (σ0 : q_S) (c : Nat) (hc : c ≤ 60) (h0 : σ0.1 69 1 = nI c) : ∀ (D d p a m1 m2 : Nat) (x3 : Int32) (σ τ : q_S), d ≤ D → p + d = c → d < m1 → d < m2 → TLS σ τ a → a ≤ p → σ.1 69 = σ0.1 69 → σ.1 70 = σ0.1 70 → τ.1 84 8 = nI c → (∀ j, j < 60 → σ0.1 70 j = τ.1 89 j) → (∃ m, f_X2_firstFault_4 (n + 100) σ0 m 0 (nI p) = some (-6)) → Out σ τ (f_X6_tell_61 (n + 100) m1 x3 (nI p) σ) (f_X10_goDays_11 (n + 100) m2 (nI p) τ) := by
  intro D
  induction D with
  | zero =>
    intro d p a m1 m2 x3 σ τ hD hp hm1 hm2 h ha g69 g70 g8 g89 hff
    obtain ⟨m1, rfl⟩ : ∃ k, m1 = k + 1 := ⟨m1 - 1, by omega⟩
    obtain ⟨m2, rfl⟩ : ∃ k, m2 = k + 1 := ⟨m2 - 1, by omega⟩
    have e : p = c := by omega
    subst e
    rw [f_X6_tell_61, f_X10_goDays_11, g69, h0, g8, if_pos (nI_le (Nat.le_refl _) (by omega)), if_pos (nI_le (Nat.le_refl _) (by omega))]
    unfold f_X6_tell_132
    rw [if_pos h.2.1, if_pos h.2.2.1]
    exact ⟨_, τ, rfl, FT_w _ _ _, FD_rf τ, h.2.1, Or.inl ⟨rfl, rfl, h.2.2.1, h.2.2.2.1, DR_71 h.1 _ _, h.2.2.2.2.1.trans h.2.2.2.2.2.1.symm, h.2.2.2.2.2.2.1, h.2.2.2.2.2.2.2.1⟩⟩
  | succ D ih =>
    intro d p a m1 m2 x3 σ τ hD hp hm1 hm2 h ha g69 g70 g8 g89 hff
    rcases Nat.lt_or_ge p c with hpc | hpc
    · obtain ⟨m1, rfl⟩ : ∃ k, m1 = k + 1 + 1 := ⟨m1 - 2, by omega⟩
      obtain ⟨m2, rfl⟩ : ∃ k, m2 = k + 1 + 1 := ⟨m2 - 2, by omega⟩
      obtain ⟨m, hff⟩ := hff
      have s89 : τ.1 89 p = σ0.1 70 p := (g89 p (by omega)).symm
      rw [f_X6_tell_61, f_X10_goDays_11, g69, h0, g8, if_neg (nI_ge hpc (by omega)), if_neg (nI_ge hpc (by omega)), if_neg (s_60 (show p < 60 by omega)), if_pos h.2.1, if_pos h.2.2.1, if_pos (nI_in (show p < 60 by omega) (by decide)), if_pos (nI_in (show p < 60 by omega) (by decide)), nI_clamp (by omega), s89, g70]
      have next : ∀ σ' τ' q (y : Int32), q ≤ c → p < q → TLS σ' τ' (a + 1) → FT σ σ' → FD τ τ' → (∃ m, f_X2_firstFault_4 (n + 100) σ0 m 0 (nI q) = some (-6)) → ∀ k1 k2, c - q < k1 → c - q < k2 → Out σ' τ' (f_X6_tell_61 (n + 100) k1 y (nI q) σ') (f_X10_goDays_11 (n + 100) k2 (nI q) τ') := fun σ' τ' q y hq hq2 t1 t2 t3 t4 k1 k2 hk1 hk2 =>
        ih (c - q) q (a + 1) k1 k2 y σ' τ' (by omega) (by omega) hk1 hk2 t1 (by omega) (by rw [t2.1 69 (by decide) (by decide), g69]) (by rw [t2.1 70 (by decide) (by decide), g70]) (by rw [t3.2.1 8 (by decide), g8]) (fun j hj => by rw [t3.1 89 (by decide) (by decide), g89 j hj]) t4
      rcases s_inv0 (n + 100) σ0 c hc h0 p hpc m hff with ⟨hs, hl, hff'⟩ | ⟨l, hl6, hls, hp1, hdeed, hff'⟩
      · rw [if_pos hl]
        have nx : ∀ σ' τ', TLS σ' τ' (a + 1) → FT σ σ' → FD τ τ' → Out σ' τ' (f_X6_tell_61 (n + 100) (m1 + 1) x3 (nI p + 1) σ') (f_X10_goDays_11 (n + 100) (m2 + 1) (nI p + 1) τ') := fun σ' τ' t1 t2 t3 => by
          rw [nI_1]
          exact next σ' τ' (p + 1) x3 (by omega) (by omega) t1 t2 t3 hff' _ _ (by omega) (by omega)
        rcases hs with e | e
        · rw [e, if_pos rfl]
          exact s_then1 (by omega) (s_actWind h n x3 (nI p)) (n + 100) m1 x3 (fun x1 σ => f_X10_goDays_11 (n + 100) (m2 + 1) x1 σ) nx
        · rw [e, if_neg (show ¬ (46 : Int32) = 126 by decide), if_pos rfl]
          exact s_then1 (by omega) (s_actBeat h n x3 (nI p)) (n + 100) m1 x3 (fun x1 σ => f_X10_goDays_11 (n + 100) (m2 + 1) x1 σ) nx
      · have hw := DR_w h.1 l hl6
        have e65 : nI (65 + l) - 65 = nI l := by
          rw [Nat.add_comm, ← nI_add, show nI 65 = 65 from rfl, Int32.add_sub_cancel]
        have hlet : f_X2_isLetter (nI (65 + l)) = 1 := by
          have : ∀ l : Fin 6, f_X2_isLetter (nI (65 + l.val)) = 1 := by decide
          exact this ⟨l, hl6⟩
        have q1 : ¬ nI (65 + l) = 126 := by
          have : ∀ l : Fin 6, ¬ nI (65 + l.val) = 126 := by decide
          exact this ⟨l, hl6⟩
        have q2 : ¬ nI (65 + l) = 46 := by
          have : ∀ l : Fin 6, ¬ nI (65 + l.val) = 46 := by decide
          exact this ⟨l, hl6⟩
        have dl : f_X2_isLetter (σ0.1 70 (p + 1)) = 0 := by
          rcases hdeed with e | e | e | e <;> rw [e] <;> decide
        rw [hls, hlet, if_neg (show ¬ (1 : Int32) = 0 by decide), if_neg q1, if_neg q2, e65, nI_1]
        rw [f_X6_tell_61, g69, h0, if_neg (nI_ge hp1 (by omega)), if_neg (s_60 (show p + 1 < 60 by omega)), if_pos h.2.1, if_pos h.2.2.1, if_pos (nI_in (show p + 1 < 60 by omega) (by decide)), nI_clamp (by omega), g70, if_pos dl, s_isT (DR_84 h.1 12 0 (by decide)) rfl l hl6, s_hasP hl6 hw (q_w τ 84 12 0) rfl]
        simp only [Option.bind_some]
        have nx : ∀ σ' τ', TLS σ' τ' (a + 1) → FT σ σ' → FD τ τ' → Out σ' τ' (f_X6_tell_61 (n + 100) m1 (nI l) (nI (p + 1) + 1) σ') (f_X10_goDays_11 (n + 100) (m2 + 1) (nI (p + 1) + 1) τ') := fun σ' τ' t1 t2 t3 => by
          rw [nI_1]
          exact next σ' τ' (p + 2) (nI l) (by omega) (by omega) t1 t2 t3 hff' _ _ (by omega) (by omega)
        have hmod : (if σ.1 (17 + 2 + l) 0 = 0 then f_X10_goDays_90 (n + 100) (fun x1 σ => f_X10_goDays_11 (n + 100) (m2 + 1) x1 σ) (nI (p + 1)) (nI l) 0 (q_w τ 84 12 0) else if σ.1 (17 + 2 + l) 2 = 0 then f_X10_goDays_90 (n + 100) (fun x1 σ => f_X10_goDays_11 (n + 100) (m2 + 1) x1 σ) (nI (p + 1)) (nI l) 0 (q_w τ 84 12 0) else f_X10_goDays_90 (n + 100) (fun x1 σ => f_X10_goDays_11 (n + 100) (m2 + 1) x1 σ) (nI (p + 1)) (nI l) 1 (q_w τ 84 12 0)) = f_X10_goDays_90 (n + 100) (fun x1 σ => f_X10_goDays_11 (n + 100) (m2 + 1) x1 σ) (nI (p + 1)) (nI l) (if σ.1 (17 + 2 + l) 0 = 0 then 0 else σ.1 (17 + 2 + l) 2) (q_w τ 84 12 0) := by
          by_cases e0 : σ.1 (17 + 2 + l) 0 = 0
          · rw [if_pos e0, if_pos e0]
          · rw [if_neg e0, if_neg e0]
            rcases hw.2.1 with e2 | e2
            · rw [if_pos e2, e2]
            · rw [if_neg (by rw [e2]; decide), e2]
        rw [hmod]
        obtain ⟨m1, rfl⟩ : ∃ k, m1 = k + 1 := ⟨m1 - 1, by omega⟩
        exact s_then1 (by omega) (s_actDeed h (by omega) n l hl6 (σ0.1 70 (p + 1)) hdeed (nI (p + 1)) (nI_in (show p + 1 < 60 by omega) (by decide)) (by rw [nI_clamp (by omega)]; exact (g89 _ (by omega)).symm) _ (fun e => by rw [e]; rfl)) (n + 100) m1 (nI l) (fun x1 σ => f_X10_goDays_11 (n + 100) (m2 + 1) x1 σ) nx
    · exact ih 0 p a m1 m2 x3 σ τ (by omega) (by omega) (by omega) (by omega) h ha g69 g70 g8 g89 hff
