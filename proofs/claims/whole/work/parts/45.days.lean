/-! the days told, in lock-step -/
def FT (σ σ' : q_S) : Prop := (∀ p, (p < 17 ∨ 34 ≤ p) → p ≠ 71 → σ'.1 p = σ.1 p) ∧ σ'.2 = σ.2
def FD (τ τ' : q_S) : Prop := (∀ p, p ≠ 86 → p ≠ 84 → τ'.1 p = τ.1 p) ∧ (∀ k, k < 10 → τ'.1 84 k = τ.1 84 k) ∧ τ'.2 = τ.2
theorem FT_rf (σ : q_S) : FT σ σ := ⟨fun _ _ _ => rfl, rfl⟩
theorem FD_rf (σ : q_S) : FD σ σ := ⟨fun _ _ _ => rfl, fun _ _ => rfl, rfl⟩
theorem FT_tr {a b c : q_S} (h1 : FT a b) (h2 : FT b c) : FT a c := ⟨fun p hp hq => by rw [h2.1 p hp hq, h1.1 p hp hq], by rw [h2.2, h1.2]⟩
theorem FD_tr {a b c : q_S} (h1 : FD a b) (h2 : FD b c) : FD a c := ⟨fun p hp hq => by rw [h2.1 p hp hq, h1.1 p hp hq], fun k hk => by rw [h2.2.1 k hk, h1.2.1 k hk], by rw [h2.2.2, h1.2.2]⟩
theorem FT_fc {a b : q_S} (h : FC a b) : FT a b := ⟨fun p hp _ => h.1 p hp, h.2⟩
theorem FD_fm {a b : q_S} (h : FM a b) : FD a b := ⟨fun p hp _ => h.1 p hp, fun k _ => by rw [h.1 84 (by decide)], h.2⟩
theorem FT_w (a : q_S) (k : Nat) (v : Int32) : FT a (q_w a 71 k v) := ⟨fun p _ hq => s_wn _ _ _ _ hq, rfl⟩
theorem FD_w (a : q_S) (k : Nat) (v : Int32) (hk : 10 ≤ k) : FD a (q_w a 84 k v) := ⟨fun p _ hq => s_wn _ _ _ _ hq, fun j hj => by rw [s_w1, s_un _ _ _ (by omega)], rfl⟩
theorem DR_71 {σ τ : q_S} (h : DR σ τ) (k : Nat) (v : Int32) : DR (q_w σ 71 k v) τ := rB_congr (fun j hj => s_wn _ _ _ _ (by omega)) h
theorem DR_84 {σ τ : q_S} (h : DR σ τ) (k : Nat) (v : Int32) (hk : 10 ≤ k) : DR σ (q_w τ 84 k v) := by
  unfold DR
  rw [s_wn _ _ _ _ (show 86 ≠ 84 by decide), s_wn _ _ _ _ (show 87 ≠ 84 by decide), s_wn _ _ _ _ (show 88 ≠ 84 by decide), s_w1, s_un _ _ _ (by omega), s_un _ _ _ (by omega), s_un _ _ _ (by omega), s_un _ _ _ (by omega)]
  exact h
def TLS (σ τ : q_S) (a : Nat) : Prop := DR σ τ ∧ σ.1 71 1 = 0 ∧ σ.1 71 4 = -6 ∧ σ.1 71 5 = -6 ∧ σ.1 71 3 = nI a ∧ τ.1 84 13 = nI a ∧ σ.1 71 6 = τ.1 84 10 ∧ σ.1 71 7 = τ.1 84 11 ∧ (τ.1 84 10 = -6 ∨ rng (τ.1 84 10) 61)
/-- one act on both sides: it goes on, or it is barred -/
def Act1 (σ τ : q_S) (a : Nat) (A : Option q_S) (M : (Int32 → q_S → Option (Int32 × q_S)) → Option (Int32 × q_S)) (x : Int32) : Prop :=
  (∃ σ' τ', A = some σ' ∧ (∀ k, M k = k (x + 1) τ') ∧ TLS σ' τ' (a + 1) ∧ FT σ σ' ∧ FD τ τ') ∨
  (∃ r σ' τ', A = some σ' ∧ (∀ k, M k = some (nI a, τ')) ∧ FT σ σ' ∧ FD τ τ' ∧ σ'.1 71 1 = 0 ∧ σ'.1 71 4 = nI a ∧ σ'.1 71 5 = r ∧ τ'.1 84 12 = r)
theorem s_147a (N : Nat) (k : Int32 → q_S → Option (Int32 × q_S)) (x : Int32) (τ : q_S) (h : τ.1 84 12 = 0) : f_X10_goDays_147 N k x τ = k (x + 1) (q_w τ 84 13 (τ.1 84 13 + 1)) := by
  unfold f_X10_goDays_147
  rw [h, if_pos (by decide)]
theorem s_147b (N : Nat) (k : Int32 → q_S → Option (Int32 × q_S)) (x : Int32) (τ : q_S) (r : Int32) (h : τ.1 84 12 = r) (hr : rng r 7) (h0 : ¬ r = 0) : f_X10_goDays_147 N k x τ = some (τ.1 84 13, τ) := by
  unfold f_X10_goDays_147
  rw [h, if_neg]
  obtain ⟨j, hj, rfl⟩ := hr
  have hj0 : j ≠ 0 := fun e => h0 (by rw [e]; rfl)
  rw [Int32.le_iff_toInt_le, nI_toInt (by omega)]
  have h0 : (0 : Int32).toInt = 0 := rfl
  omega
/-- an act of the class that is done, with the walkers' numbers kept -/
theorem TLS_next {σ σ' τ τ' : q_S} {a : Nat} (h : TLS σ τ a) (hd : DR σ' τ') (hc : FC σ σ') (hm : FM (q_w τ 84 12 0) τ') : TLS (q_w σ' 71 3 (σ'.1 71 3 + 1)) (q_w τ' 84 13 (τ'.1 84 13 + 1)) (a + 1) ∧ FT σ (q_w σ' 71 3 (σ'.1 71 3 + 1)) ∧ FD τ (q_w τ' 84 13 (τ'.1 84 13 + 1)) := by
  obtain ⟨-, h1, h4, h5, h3, h13, h6, h7, h10⟩ := h
  have c71 := hc.1 71 (by decide)
  have m84 : τ'.1 84 = upd (τ.1 84) 12 0 := by rw [hm.1 84 (by decide), s_w1]
  refine ⟨⟨DR_84 (DR_71 hd _ _) _ _ (by decide), ?_, ?_, ?_, ?_, ?_, ?_, ?_, ?_⟩, FT_tr (FT_fc hc) (FT_w _ _ _), FD_tr (FD_tr (FD_w _ _ _ (by decide)) (FD_fm hm)) (FD_w _ _ _ (by decide))⟩
  · rw [s_w1, s_un _ _ _ (by decide), c71, h1]
  · rw [s_w1, s_un _ _ _ (by decide), c71, h4]
  · rw [s_w1, s_un _ _ _ (by decide), c71, h5]
  · rw [s_w1, s_u1, c71, h3, nI_1]
  · rw [s_w1, s_u1, m84, s_un _ _ _ (by decide), h13, nI_1]
  · rw [s_w1, s_un _ _ _ (by decide), c71, h6, s_w1, s_un _ _ _ (by decide), m84, s_un _ _ _ (by decide)]
  · rw [s_w1, s_un _ _ _ (by decide), c71, h7, s_w1, s_un _ _ _ (by decide), m84, s_un _ _ _ (by decide)]
  · rw [s_w1, s_un _ _ _ (by decide), m84, s_un _ _ _ (by decide)]
    exact h10
theorem s_actWind {σ τ : q_S} {a : Nat} (h : TLS σ τ a) (n : Nat) (x3 x : Int32) : Act1 σ τ a (f_X6_tellAct (n + 100) x3 126 σ) (fun k => (f_X10_blow (n + 100) (q_w τ 84 12 0)).bind fun z => f_X10_goDays_147 (n + 100) k x z) x := by
  obtain ⟨σ', τ', b1, b2, b3, b4, b5⟩ := s_wind n σ (q_w τ 84 12 0) (DR_84 h.1 _ _ (by decide))
  obtain ⟨c1, c2, c3⟩ := TLS_next h b3 b4 b5
  refine Or.inl ⟨_, _, ?_, fun k => ?_, c1, c2, c3⟩
  · unfold f_X6_tellAct f_X3_whyNot f_X3_act f_X6_tellAct_74
    rw [b1]
    rfl
  · simp only [b2, Option.bind_some]
    refine s_147a _ _ _ _ ?_
    rw [b5.1 84 (by decide), s_w1, s_u1]
theorem s_actBar {σ : q_S} (N : Nat) (x3 v r : Int32) (h : f_X3_whyNot N 17 x3 v σ = some r) (h0 : ¬ r = 0) : f_X6_tellAct N x3 v σ = some (q_w (q_w σ 71 4 (σ.1 71 3)) 71 5 r) := by
  unfold f_X6_tellAct
  rw [h]
  simp only [Option.bind_some]
  rw [if_neg h0]
theorem s_actBeat {σ τ : q_S} {a : Nat} (h : TLS σ τ a) (n : Nat) (x3 x : Int32) : Act1 σ τ a (f_X6_tellAct (n + 100) x3 46 σ) (fun k => (f_X10_beat (n + 100) (q_w τ 84 12 0)).bind fun z => f_X10_goDays_147 (n + 100) k x (q_w z.2 84 12 z.1)) x := by
  have hD := DR_84 h.1 12 0 (by decide)
  rcases s_beat n σ (q_w τ 84 12 0) hD with ⟨b0, b1⟩ | ⟨b0, σ', τ', b1, b2, b3, b4, b5⟩
  · have hw : f_X3_whyNot (n + 100) 17 x3 46 σ = some 6 := by
      unfold f_X3_whyNot
      rw [if_neg (by decide), if_pos rfl, if_neg b0]
    refine Or.inr ⟨6, _, q_w (q_w τ 84 12 0) 84 12 6, s_actBar _ _ _ _ hw (by decide), fun k => ?_, FT_tr (FT_w _ _ _) (FT_w _ _ _), FD_tr (FD_w _ _ _ (by decide)) (FD_w _ _ _ (by decide)), ?_, ?_, ?_, ?_⟩
    · simp only [b1, Option.bind_some]
      rw [s_147b _ _ _ _ 6 (by rw [s_w1, s_u1]) ⟨6, by decide, rfl⟩ (by decide)]
      congr 2
      exact h.2.2.2.2.2.1
    · exact h.2.1
    · exact h.2.2.2.2.1
    · rfl
    · rfl
  · have hw : f_X3_whyNot (n + 100) 17 x3 46 σ = some 0 := by
      unfold f_X3_whyNot
      rw [if_neg (by decide), if_pos rfl, if_pos b0]
    have h12 : τ'.1 84 12 = 0 := by rw [b5.1 84 (by decide), s_w1, s_u1]
    have hq : q_w τ' 84 12 0 = τ' := by
      refine s_ext (fun p k => ?_) rfl
      by_cases hp : p = 84
      · subst hp
        rw [s_w1]
        by_cases hk : k = 12
        · subst hk
          rw [s_u1, h12]
        · rw [s_un _ _ _ hk]
      · rw [s_wn _ _ _ _ hp]
    obtain ⟨c1, c2, c3⟩ := TLS_next h b3 b4 b5
    refine Or.inl ⟨_, _, ?_, fun k => ?_, c1, c2, c3⟩
    · unfold f_X6_tellAct f_X3_act f_X6_tellAct_74
      rw [hw, b1]
      rfl
    · simp only [b2, Option.bind_some]
      rw [hq]
      exact s_147a _ _ _ _ h12
theorem s_bs {α : Type} (x : Option α) : (x.bind fun z => some z) = x := by cases x <;> rfl
/-- what the deed does to whether his OTHER has parted -/
theorem s_actParted {σ σ' τ : q_S} (h : DR σ τ) (n i : Nat) (hi : i < 6) (hth : σ.1 (17 + 2 + i) 0 = 1) (v : Int32) (hv : v = 60 ∨ v = 62 ∨ v = 61 ∨ v = 42) (ha : f_X3_act (n + 100) 17 (nI i) v σ = some σ') : (¬ v = 42 → σ'.1 (17 + 2 + i) 2 = σ.1 (17 + 2 + i) 2) ∧ (v = 42 → σ'.1 (17 + 2 + i) 2 = if σ.1 (17 + 2 + i) 2 = 0 then 1 else 0) := by
  have n0 : ¬ σ.1 (17 + 2 + i) 0 = 0 := by rw [hth]; decide
  have st : ∀ c σ', f_X8_stepTo (n + 100) (17 + 2 + i) c σ = some σ' → σ'.1 (17 + 2 + i) 2 = σ.1 (17 + 2 + i) 2 := fun c σ' e => by
    obtain ⟨s, s1, s2, -⟩ := s_stepC n (17 + 2 + i) c σ
    rw [s1] at e
    obtain rfl := Option.some.inj e
    rw [s2 _ (by omega)]
  unfold f_X3_act at ha
  rw [s_hasC h i hi] at ha
  simp only [Option.bind_some] at ha
  rw [if_neg n0, if_pos (nI_in hi (by decide)), nI_clamp (by omega)] at ha
  unfold f_X3_actAlone f_X3_actAlone_26 at ha
  rcases hv with rfl | rfl | rfl | rfl
  · refine ⟨fun _ => ?_, fun e => absurd e (by decide)⟩
    simp only [show ¬ ((60 : Int32) = 126) by decide, show ¬ ((60 : Int32) = 46) by decide, show ¬ ((60 : Int32) = 42) by decide, if_false, if_true, s_bs] at ha
    exact st _ _ ha
  · refine ⟨fun _ => ?_, fun e => absurd e (by decide)⟩
    simp only [show ¬ ((62 : Int32) = 126) by decide, show ¬ ((62 : Int32) = 46) by decide, show ¬ ((62 : Int32) = 42) by decide, show ¬ ((62 : Int32) = 60) by decide, if_false, if_true, s_bs] at ha
    exact st _ _ ha
  · refine ⟨fun _ => ?_, fun e => absurd e (by decide)⟩
    simp only [show ¬ ((61 : Int32) = 126) by decide, show ¬ ((61 : Int32) = 46) by decide, show ¬ ((61 : Int32) = 42) by decide, show ¬ ((61 : Int32) = 60) by decide, show ¬ ((61 : Int32) = 62) by decide, if_false, if_true, s_bs] at ha
    exact st _ _ ha
  · refine ⟨fun e => absurd rfl e, fun _ => ?_⟩
    simp only [show ¬ ((42 : Int32) = 126) by decide, show ¬ ((42 : Int32) = 46) by decide, if_false, if_true, s_bs] at ha
    by_cases e2 : σ.1 (17 + 2 + i) 2 = 0
    · rw [if_pos e2] at ha
      rw [if_pos e2]
      rw [s_otherC σ 17 i (rW_lt (DR_w h i hi))] at ha
      simp only [Option.bind_some] at ha
      obtain rfl := Option.some.inj ha
      unfold f_X8_part
      simp only [s_w1]
      rfl
    · rw [if_neg e2] at ha
      rw [if_neg e2]
      obtain ⟨s, s1, s2, s3, s4, -⟩ := s_beginC n (17 + 2 + i) (σ.1 (17 + 2 + i + 6) (0 : Int32).toNatClampNeg) σ
      rw [s1] at ha
      obtain rfl := Option.some.inj ha
      rw [s4]
      rfl
