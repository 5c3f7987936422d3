/-! WIND and the beat, in lock-step: the class at block 17 of σ, the reference at row 86 of τ -/
def DR (σ τ : q_S) : Prop := rB σ 17 (τ.1 86) (τ.1 87) (τ.1 88) (τ.1 84 2) (τ.1 84 4) (τ.1 84 5) (τ.1 84 6)
theorem DR_one {σ σ' τ τ' : q_S} (i : Nat) (hi : i < 6) (h : DR σ τ) (hf : ∀ k, k < 17 → k ≠ 2 + i → k ≠ 8 + i → σ'.1 (17 + k) = σ.1 (17 + k)) (h0 : σ'.1 (17 + 2 + i) 0 = σ.1 (17 + 2 + i) 0) (hm : FM τ τ') (hw : rW (σ'.1 (17 + 2 + i)) (σ'.1 (17 + 8 + i)) (τ'.1 86) (τ.1 87 i) i) (hB : ∀ k, k < 50 → (k < 6 * i ∨ 6 * i + 6 ≤ k) → k ≠ 36 + i → k ≠ 42 + i → τ'.1 86 k = τ.1 86 k) : DR σ' τ' := by
  unfold DR
  rw [hm.1 87 (by decide), hm.1 88 (by decide), hm.1 84 (by decide)]
  exact rB_one i hi h hf h0 hw hB
theorem DR_w {σ τ : q_S} (h : DR σ τ) (i : Nat) (hi : i < 6) : rW (σ.1 (17 + 2 + i)) (σ.1 (17 + 8 + i)) (τ.1 86) (τ.1 87 i) i := rB_w h i hi
/-- both flags turn, or both beats pass -/
theorem DR_num {σ σ' τ τ' : q_S} (h : DR σ τ) (hf : ∀ k, 0 < k → k < 17 → σ'.1 (17 + k) = σ.1 (17 + k)) (hm : FM τ τ') (hB : ∀ k, k < 48 → τ'.1 86 k = τ.1 86 k) (e0 : σ'.1 17 0 = σ.1 17 0) (e1 : σ'.1 17 1 = σ.1 17 1) (e2 : σ'.1 17 2 = τ'.1 86 48 ∧ (τ'.1 86 48 = 0 ∨ τ'.1 86 48 = 1)) (e3 : σ'.1 17 3 = τ'.1 86 49 ∧ rng (τ'.1 86 49) 1000) : DR σ' τ' := by
  unfold DR
  rw [hm.1 87 (by decide), hm.1 88 (by decide), hm.1 84 (by decide)]
  obtain ⟨hA, hG, hWd, hBt, hT, w0, w1, w2, w3, w4, w5, hS⟩ := h
  have cg : ∀ (i : Nat), i < 6 → ∀ {w u : Nat → Int32} {la : Int32}, rW w u (τ.1 86) la i → rW w u (τ'.1 86) la i := fun i hi {w u la} hh => rW_congr hh (hB _ (by omega)) (hB _ (by omega)) (fun k hk => hB _ (by omega))
  unfold rB
  rw [e0, e1, hf 2 (by decide) (by decide), hf 3 (by decide) (by decide), hf 4 (by decide) (by decide), hf 5 (by decide) (by decide), hf 6 (by decide) (by decide), hf 7 (by decide) (by decide), hf 8 (by decide) (by decide), hf 9 (by decide) (by decide), hf 10 (by decide) (by decide), hf 11 (by decide) (by decide), hf 12 (by decide) (by decide), hf 13 (by decide) (by decide), hf 14 (by decide) (by decide), hf 15 (by decide) (by decide), hf 16 (by decide) (by decide)]
  exact ⟨hA, hG, e2, e3, hT, cg 0 (by decide) w0, cg 1 (by decide) w1, cg 2 (by decide) w2, cg 3 (by decide) w3, cg 4 (by decide) w4, cg 5 (by decide) w5, hS⟩
theorem s_windStep (n m i : Nat) (hi : i < 6) (σ τ : q_S) (h : DR σ τ) : ∃ σ' τ', f_X3_turnWind_18 (n + 100) 17 (m + 1) (nI i) σ = f_X3_turnWind_18 (n + 100) 17 m (nI (i + 1)) σ' ∧ f_X10_blow_18 (n + 100) (m + 1) (nI i) τ = f_X10_blow_18 (n + 100) m (nI (i + 1)) τ' ∧ DR σ' τ' ∧ FC σ σ' ∧ FM τ τ' := by
  have hw := DR_w h i hi
  rw [f_X3_turnWind_18, f_X10_blow_18, if_neg (show ¬ (6 : Int32) ≤ nI i from nI_ge hi (by decide)), if_neg (show ¬ (6 : Int32) ≤ nI i from nI_ge hi (by decide)), if_pos (nI_in hi (by decide)), nI_clamp (by omega), nI_1, s_isT h rfl i hi, s_hasP hi hw τ rfl]
  simp only [Option.bind_some]
  rcases hw.2.1 with e2 | e2
  · rw [if_pos e2, if_pos e2]
    obtain ⟨σ', b1, b2, b3, b4, b5⟩ := s_beginC n (17 + 2 + i) (σ.1 (17 + 2 + i + 6) (0 : Int32).toNatClampNeg) σ
    rw [b1]
    simp only [Option.bind_some]
    have e6 : 17 + 2 + i + 6 = 17 + 8 + i := by omega
    rw [e6] at b5 b2
    have hf : ∀ k, k < 17 → k ≠ 2 + i → k ≠ 8 + i → σ'.1 (17 + k) = σ.1 (17 + k) := fun k hk h1 h2 => b2 _ (by omega) (by omega)
    have hFC : FC σ σ' := ⟨fun p hp => b2 p (by omega) (by omega), b3⟩
    have h0 : σ'.1 (17 + 2 + i) 0 = σ.1 (17 + 2 + i) 0 := by rw [b4]; rfl
    rcases hw.1 with e0 | e0
    · rw [if_pos e0]
      refine ⟨σ', τ, rfl, rfl, DR_one i hi h hf h0 (FM_rf τ) (rW_anew hw h0 (by rw [b4]; rfl) (by rw [b4]; rfl) (by rw [b4]; rfl) b5 rfl (fun z => by rw [e0] at z; exact absurd z (by decide)) (hw.2.2.2.2.2.1 e2)) (fun _ _ _ _ _ => rfl), hFC, FM_rf τ⟩
    · have n0 : ¬ σ.1 (17 + 2 + i) 0 = 0 := by rw [e0]; decide
      rw [if_neg n0]
      obtain ⟨τ', c1, c2, c3, c4⟩ := s_anewM n i hi τ
      rw [c1]
      simp only [Option.bind_some]
      refine ⟨σ', τ', rfl, rfl, DR_one i hi h hf h0 c2 (rW_anew hw h0 (by rw [b4]; rfl) (by rw [b4]; rfl) (by rw [b4]; rfl) b5 (c3 0 (by decide)) (fun _ => c3) (by rw [c4 _ (by omega)]; exact hw.2.2.2.2.2.1 e2)) (fun k _ hk _ _ => c4 k hk), hFC, c2⟩
  · have n2 : ¬ σ.1 (17 + 2 + i) 2 = 0 := by rw [e2]; decide
    rw [if_neg n2, if_neg n2, ite_self]
    exact ⟨σ, τ, rfl, rfl, h, FC_rf σ, FM_rf τ⟩
theorem s_windLoop (n : Nat) : ∀ (d i m : Nat) (σ τ : q_S), i + d = 6 → d < m → DR σ τ → ∃ σ' τ', f_X3_turnWind_18 (n + 100) 17 m (nI i) σ = some σ' ∧ f_X10_blow_18 (n + 100) m (nI i) τ = some τ' ∧ DR σ' τ' ∧ FC σ σ' ∧ FM τ τ' := by
  intro d
  induction d with
  | zero =>
    intro i m σ τ h1 h2 h
    obtain ⟨m, rfl⟩ : ∃ m', m = m' + 1 := ⟨m - 1, by omega⟩
    have e : i = 6 := by omega
    subst e
    exact ⟨σ, τ, rfl, rfl, h, FC_rf σ, FM_rf τ⟩
  | succ d ih =>
    intro i m σ τ h1 h2 h
    obtain ⟨m, rfl⟩ : ∃ m', m = m' + 1 := ⟨m - 1, by omega⟩
    obtain ⟨σ1, τ1, a1, a2, a3, a4, a5⟩ := s_windStep n m i (by omega) σ τ h
    obtain ⟨σ2, τ2, b1, b2, b3, b4, b5⟩ := ih (i + 1) m σ1 τ1 (by omega) (by omega) a3
    exact ⟨σ2, τ2, by rw [a1, b1], by rw [a2, b2], b3, FC_tr a4 b4, FM_tr a5 b5⟩
theorem s_wind (n : Nat) (σ τ : q_S) (h : DR σ τ) : ∃ σ' τ', f_X3_turnWind (n + 100) 17 σ = some σ' ∧ f_X10_blow (n + 100) τ = some τ' ∧ DR σ' τ' ∧ FC σ σ' ∧ FM τ τ' := by
  have hW := h.2.2.1
  have hM : ∀ v, FM τ (q_w τ 86 48 v) := fun v => ⟨fun p hp => s_wn _ _ _ _ hp, rfl⟩
  have hC : ∀ v, FC σ (q_w σ 17 2 v) := fun v => ⟨fun p hp => s_wn _ _ _ _ (by omega), rfl⟩
  have hD : ∀ v, (v = 0 ∨ v = 1) → DR (q_w σ 17 2 v) (q_w τ 86 48 v) := fun v hv =>
    DR_num h (fun k h0 h1 => s_wn _ _ _ _ (by omega)) (hM v) (fun k hk => by rw [s_w1, s_un _ _ _ (by omega)]) rfl rfl ⟨rfl, hv⟩ h.2.2.2.1
  unfold f_X3_turnWind f_X10_blow
  have e48 : τ.1 86 (48 : Int32).toNatClampNeg = σ.1 17 2 := hW.1.symm
  rw [e48]
  rcases hW.2 with e | e
  · rw [hW.1, e, if_pos rfl]
    obtain ⟨σ2, τ2, b1, b2, b3, b4, b5⟩ := s_windLoop n 6 0 (n + 100) _ _ rfl (by omega) (hD 1 (Or.inr rfl))
    exact ⟨σ2, τ2, b1, b2, b3, FC_tr (hC 1) b4, FM_tr (hM 1) b5⟩
  · rw [hW.1, e, if_neg (by decide)]
    obtain ⟨σ2, τ2, b1, b2, b3, b4, b5⟩ := s_windLoop n 6 0 (n + 100) _ _ rfl (by omega) (hD 0 (Or.inl rfl))
    exact ⟨σ2, τ2, b1, b2, b3, FC_tr (hC 0) b4, FM_tr (hM 0) b5⟩
/-! the beat -/
theorem s_stray (o : Nat) (σ : q_S) : (∀ p, p ≠ o → (f_X8_stray o σ).1 p = σ.1 p) ∧ (f_X8_stray o σ).2 = σ.2 ∧ (f_X8_stray o σ).1 o 0 = σ.1 o 0 ∧ (f_X8_stray o σ).1 o 1 = σ.1 o 1 ∧ (f_X8_stray o σ).1 o 2 = σ.1 o 2 ∧ (f_X8_stray o σ).1 o 3 = σ.1 o 3 + (if f_X9_isEastNext (σ.1 o 3) (σ.1 o 4) = 0 then -1 else 1) ∧ (f_X8_stray o σ).1 o 4 = f_X9_isEastNext (σ.1 o 3) (σ.1 o 4) := by
  unfold f_X8_stray
  have e4 : (q_w σ o 4 (f_X9_isEastNext (σ.1 o 3) (σ.1 o 4))).1 o 4 = f_X9_isEastNext (σ.1 o 3) (σ.1 o 4) := by rw [s_w1]; rfl
  have e3 : (q_w σ o 4 (f_X9_isEastNext (σ.1 o 3) (σ.1 o 4))).1 o 3 = σ.1 o 3 := by rw [s_w1]; rfl
  rw [e4, e3]
  by_cases he : f_X9_isEastNext (σ.1 o 3) (σ.1 o 4) = 0
  · rw [if_pos he, if_pos he]
    refine ⟨fun p hp => by rw [s_wn _ _ _ _ hp, s_wn _ _ _ _ hp], rfl, ?_, ?_, ?_, ?_, ?_⟩ <;> (simp only [s_w1]; rfl)
  · rw [if_neg he, if_neg he]
    refine ⟨fun p hp => by rw [s_wn _ _ _ _ hp, s_wn _ _ _ _ hp], rfl, ?_, ?_, ?_, ?_, ?_⟩ <;> (simp only [s_w1]; rfl)
theorem s_strayT : ∀ c : Fin 20, ∀ b : Bool, let e : Int32 := if b then 1 else 0; let t : Int32 := if b then 1 else -1; let e' := f_X9_isEastNext (nI c.val) e; let c' := nI c.val + (if e' = 0 then -1 else 1);
    (e' = 0 ∨ e' = 1) ∧ (c' < 20 ∧ 0 ≤ c') ∧ (f_X10_isCell (nI c.val + t) = 0 → e' = 1 - e ∧ c' = nI c.val + -t) ∧ (¬ f_X10_isCell (nI c.val + t) = 0 → e' = e ∧ c' = nI c.val + t) := by
  decide +kernel
/-- the reference's part of the beat for a parted walker -/
theorem s_beat69 (N i : Nat) (hi : i < 6) (k29 : Int32 → q_S → Option (Int32 × q_S)) (τ : q_S) (c : Nat) (hc : c < 20) (b : Bool) (h36 : τ.1 86 (36 + i) = nI c) (h42 : τ.1 86 (42 + i) = if b then 1 else 0) : ∃ τ', f_X10_beat_69 N k29 (nI i) (if b then 1 else -1) τ = k29 (nI (i + 1)) τ' ∧ FM τ τ' ∧ τ'.1 86 (42 + i) = f_X9_isEastNext (nI c) (if b then 1 else 0) ∧ τ'.1 86 (36 + i) = nI c + (if f_X9_isEastNext (nI c) (if b then 1 else 0) = 0 then -1 else 1) ∧ ∀ k, k ≠ 36 + i → k ≠ 42 + i → τ'.1 86 k = τ.1 86 k := by
  obtain ⟨-, -, hA, hB⟩ := s_strayT ⟨c, hc⟩ b
  unfold f_X10_beat_69 f_X10_beat_110
  rw [show (36 : Int32) + nI i = nI (36 + i) from nI_add 36 i, show (42 : Int32) + nI i = nI (42 + i) from nI_add 42 i, if_pos (nI_in (show 36 + i < 50 by omega) (by decide)), if_pos (nI_in (show 42 + i < 50 by omega) (by decide)), nI_clamp (by omega), nI_clamp (by omega), h36, h42, nI_1]
  have hd : 36 + i ≠ 42 + i := by omega
  by_cases hz : f_X10_isCell (nI c + (if b then 1 else -1)) = 0
  · rw [if_pos hz, if_pos (s_ik (show 36 + i < 50 by omega) (by decide))]
    obtain ⟨a1, a2⟩ := hA hz
    refine ⟨_, rfl, ⟨fun p hp => by rw [s_wn _ _ _ _ hp, s_wn _ _ _ _ hp], rfl⟩, ?_, ?_, fun k h1 h2 => ?_⟩
    · rw [s_w1, s_un _ _ _ hd.symm, s_w1, s_u1]
      exact a1.symm
    · rw [s_w1, s_u1, s_w1, s_un _ _ _ hd, h36]
      exact a2.symm
    · rw [s_w1, s_un _ _ _ h1, s_w1, s_un _ _ _ h2]
  · rw [if_neg hz, if_pos (s_ik (show 36 + i < 50 by omega) (by decide))]
    obtain ⟨a1, a2⟩ := hB hz
    refine ⟨_, rfl, ⟨fun p hp => by rw [s_wn _ _ _ _ hp], rfl⟩, ?_, ?_, fun k h1 h2 => ?_⟩
    · rw [s_w1, s_un _ _ _ hd.symm, h42]
      exact a1.symm
    · rw [s_w1, s_u1]
      exact a2.symm
    · rw [s_w1, s_un _ _ _ h1]
theorem s_beatStep (n m i : Nat) (hi : i < 6) (σ τ : q_S) (h : DR σ τ) : ∃ σ' τ', f_X3_passBeat_12 (n + 100) 17 (m + 1) (nI i) σ = f_X3_passBeat_12 (n + 100) 17 m (nI (i + 1)) σ' ∧ f_X10_beat_29 (n + 100) (m + 1) (nI i) τ = f_X10_beat_29 (n + 100) m (nI (i + 1)) τ' ∧ DR σ' τ' ∧ FC σ σ' ∧ FM τ τ' := by
  have hw := DR_w h i hi
  rw [f_X3_passBeat_12, f_X10_beat_29, if_neg (show ¬ (6 : Int32) ≤ nI i from nI_ge hi (by decide)), if_neg (show ¬ (6 : Int32) ≤ nI i from nI_ge hi (by decide)), if_pos (nI_in hi (by decide)), nI_clamp (by omega), nI_1, s_isT h rfl i hi, s_hasP hi hw τ rfl]
  simp only [Option.bind_some]
  rcases hw.1 with e0 | e0
  · rw [if_pos e0, if_pos e0]
    exact ⟨σ, τ, rfl, rfl, h, FC_rf σ, FM_rf τ⟩
  have n0 : ¬ σ.1 (17 + 2 + i) 0 = 0 := by rw [e0]; decide
  rw [if_neg n0, if_neg n0]
  rcases hw.2.1 with e2 | e2
  · rw [if_pos e2, if_pos e2]
    exact ⟨σ, τ, rfl, rfl, h, FC_rf σ, FM_rf τ⟩
  have n2 : ¬ σ.1 (17 + 2 + i) 2 = 0 := by rw [e2]; decide
  rw [if_neg n2, if_neg n2]
  obtain ⟨h36, h42, c, hc, h3⟩ := hw.2.2.2.2.2.2.1 e2
  obtain ⟨b, hb⟩ : ∃ b : Bool, σ.1 (17 + 2 + i) 4 = if b then 1 else 0 := by
    rcases hw.2.2.1 with e | e
    · exact ⟨false, e⟩
    · exact ⟨true, e⟩
  obtain ⟨s1, s2, s3, s4, s5, s6, s7⟩ := s_stray (17 + 2 + i) σ
  rw [h3, hb] at s6 s7
  obtain ⟨t1, t2, -, -⟩ := s_strayT ⟨c, hc⟩ b
  rw [h3] at h36
  rw [hb] at h42
  obtain ⟨τ', m1, m2, m3, m4, m5⟩ := s_beat69 (n + 100) i hi (fun x1 σ => f_X10_beat_29 (n + 100) m x1 σ) τ c hc b h36 h42
  have hr : rng (nI c + (if f_X9_isEastNext (nI c) (if b then 1 else 0) = 0 then -1 else 1)) 20 := by
    have t3 := t2.1
    have t4 := t2.2
    rw [Int32.lt_iff_toInt_lt] at t3
    rw [Int32.le_iff_toInt_le] at t4
    exact rng_of t4 t3
  refine ⟨f_X8_stray (17 + 2 + i) σ, τ', rfl, ?_, DR_one i hi h (fun k hk h1 h2 => s1 _ (by omega)) s3 m2 ?_ (fun k hk h1 h2 h3 => m5 k h2 h3), ⟨fun p hp => s1 p (by omega), s2⟩, m2⟩
  · rw [show (42 : Int32) + nI i = nI (42 + i) from nI_add 42 i, if_pos (nI_in (show 42 + i < 50 by omega) (by decide)), nI_clamp (by omega), h42, ← m1]
    cases b
    · exact if_neg (by decide)
    · exact if_pos rfl
  · rw [s1 (17 + 8 + i) (by omega)]
    exact rW_part hw s3 s4 (by rw [s5]; exact e2) s6 s7 t1 hr (fun k hk => m5 _ (by omega) (by omega)) m4 m3
theorem s_beatLoop (n : Nat) : ∀ (d i m : Nat) (σ τ : q_S), i + d = 6 → d < m → DR σ τ → ∃ σ' τ', f_X3_passBeat_12 (n + 100) 17 m (nI i) σ = some σ' ∧ f_X10_beat_29 (n + 100) m (nI i) τ = some (0, τ') ∧ DR σ' τ' ∧ FC σ σ' ∧ FM τ τ' := by
  intro d
  induction d with
  | zero =>
    intro i m σ τ h1 h2 h
    obtain ⟨m, rfl⟩ : ∃ m', m = m' + 1 := ⟨m - 1, by omega⟩
    have e : i = 6 := by omega
    subst e
    exact ⟨σ, τ, rfl, rfl, h, FC_rf σ, FM_rf τ⟩
  | succ d ih =>
    intro i m σ τ h1 h2 h
    obtain ⟨m, rfl⟩ : ∃ m', m = m' + 1 := ⟨m - 1, by omega⟩
    obtain ⟨σ1, τ1, a1, a2, a3, a4, a5⟩ := s_beatStep n m i (by omega) σ τ h
    obtain ⟨σ2, τ2, b1, b2, b3, b4, b5⟩ := ih (i + 1) m σ1 τ1 (by omega) (by omega) a3
    exact ⟨σ2, τ2, by rw [a1, b1], by rw [a2, b2], b3, FC_tr a4 b4, FM_tr a5 b5⟩
/-- the beat: barred at 999 on both sides, else both pass it -/
theorem s_beat (n : Nat) (σ τ : q_S) (h : DR σ τ) : (¬ σ.1 17 3 < 999 ∧ f_X10_beat (n + 100) τ = some (6, τ)) ∨ (σ.1 17 3 < 999 ∧ ∃ σ' τ', f_X3_passBeat (n + 100) 17 σ = some σ' ∧ f_X10_beat (n + 100) τ = some (0, τ') ∧ DR σ' τ' ∧ FC σ σ' ∧ FM τ τ') := by
  obtain ⟨hB, k, hk, hB2⟩ := h.2.2.2.1
  have e49 : τ.1 86 (49 : Int32).toNatClampNeg = nI k := hB2
  unfold f_X3_passBeat f_X10_beat
  rw [e49, hB, hB2]
  by_cases hk2 : k = 999
  · subst hk2
    exact Or.inl ⟨by decide, rfl⟩
  · right
    have hlt : nI k < 999 := by
      rw [Int32.lt_iff_toInt_lt, nI_toInt (by omega)]
      show (k : Int) < 999
      omega
    have hne : ¬ nI k = 999 := by
      intro e
      rw [e] at hlt
      exact absurd hlt (by decide)
    rw [if_neg hne, nI_1]
    have hM : FM τ (q_w τ 86 49 (nI (k + 1))) := ⟨fun p hp => s_wn _ _ _ _ hp, rfl⟩
    have hC : FC σ (q_w σ 17 3 (nI (k + 1))) := ⟨fun p hp => s_wn _ _ _ _ (by omega), rfl⟩
    have hD : DR (q_w σ 17 3 (nI (k + 1))) (q_w τ 86 49 (nI (k + 1))) :=
      DR_num h (fun k h0 h1 => s_wn _ _ _ _ (by omega)) hM (fun k hk => by rw [s_w1, s_un _ _ _ (by omega)]) rfl rfl h.2.2.1 ⟨rfl, ⟨k + 1, by omega, rfl⟩⟩
    obtain ⟨σ2, τ2, b1, b2, b3, b4, b5⟩ := s_beatLoop n 6 0 (n + 100) _ _ rfl (by omega) hD
    exact ⟨hlt, σ2, τ2, b1, b2, b3, FC_tr hC b4, FM_tr hM b5⟩
