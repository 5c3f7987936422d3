/-! trip: nothing holds him; all together -/
theorem p_step (la gp s w : Nat) (hw : w < 3) (h : 1 ≤ tg (s / 243) w ∧ tg (s / 243) w ≤ 20) : ∃ s', stR false la gp s w = some s' ∧ s' < 4860 ∧ s' / 243 = tg (s / 243) w - 1 := by
  have e : stR false la gp s w = some (243 * (tg (s / 243) w - 1) + s % 81 * 3 + w) := if_pos ⟨h, Or.inr (Or.inl rfl)⟩
  have l := stR_lt hw e
  exact ⟨_, e, l.1, l.2.1⟩
theorem p_west (la gp s0 : Nat) (hs : s0 < 4860) : ∀ n, n + 1 ≤ s0 / 243 → ∃ s, s < 4860 ∧ s / 243 + (n + 1) = s0 / 243 ∧ Wn (stR false la gp) s0 (n + 1) (10 * (n + 1) + 1) s := by
  intro n
  induction n with
  | zero =>
    intro h
    have ht : tg (s0 / 243) 1 = s0 / 243 := rfl
    obtain ⟨s, e1, e2, e3⟩ := p_step la gp s0 1 (by decide) (by rw [ht]; omega)
    exact ⟨s, e2, by rw [e3, ht]; omega, 0, s0, 1, ⟨rfl, rfl⟩, by decide, e1, rfl⟩
  | succ n ih =>
    intro h
    obtain ⟨s', a1, a2, a3⟩ := ih (by omega)
    have ht : tg (s' / 243) 1 = s' / 243 := rfl
    obtain ⟨s, e1, e2, e3⟩ := p_step la gp s' 1 (by decide) (by rw [ht]; omega)
    refine ⟨s, e2, by rw [e3, ht]; omega, _, s', 1, a3, by decide, e1, ?_⟩
    unfold nx
    rw [if_neg (by omega)]
    omega
theorem p_east (la gp s0 : Nat) (hs : s0 < 4860) : ∀ n, s0 / 243 + (n + 1) < 20 → ∃ s, s < 4860 ∧ s / 243 = s0 / 243 + (n + 1) ∧ Wn (stR false la gp) s0 (n + 1) (10 * (n + 1) + 2) s := by
  intro n
  induction n with
  | zero =>
    intro h
    have ht : tg (s0 / 243) 2 = s0 / 243 + 2 := rfl
    obtain ⟨s, e1, e2, e3⟩ := p_step la gp s0 2 (by decide) (by rw [ht]; omega)
    exact ⟨s, e2, by rw [e3, ht]; omega, 0, s0, 2, ⟨rfl, rfl⟩, by decide, e1, rfl⟩
  | succ n ih =>
    intro h
    obtain ⟨s', a1, a2, a3⟩ := ih (by omega)
    have ht : tg (s' / 243) 2 = s' / 243 + 2 := rfl
    obtain ⟨s, e1, e2, e3⟩ := p_step la gp s' 2 (by decide) (by rw [ht]; omega)
    refine ⟨s, e2, by rw [e3, ht]; omega, _, s', 2, a3, by decide, e1, ?_⟩
    unfold nx
    rw [if_neg (by omega)]
    omega
theorem p_bound (md : Bool) (la gp s0 : Nat) : ∀ n c s, Wn (stR md la gp) s0 (n + 1) c s → ∃ f, c = 10 * (n + 1) + f ∧ f < 3 ∧ s / 243 ≤ s0 / 243 + (n + 1) ∧ s0 / 243 ≤ s / 243 + (n + 1) ∧ (f ≠ 2 → s / 243 ≤ s0 / 243 + n) ∧ (f ≠ 1 → s0 / 243 ≤ s / 243 + n) := by
  intro n
  induction n with
  | zero =>
    intro c s h
    obtain ⟨c', s', w, ⟨rfl, rfl⟩, hw, hst, rfl⟩ := h
    obtain ⟨l1, l2, l3⟩ := stR_lt hw hst
    unfold tg at l2 l3
    refine ⟨w, by unfold nx; rw [if_pos (by decide)], hw, ?_⟩
    rcases (show w = 0 ∨ w = 1 ∨ w = 2 by omega) with rfl | rfl | rfl
    · rw [if_neg (by decide), if_neg (by decide)] at l2 l3
      omega
    · rw [if_pos (by decide)] at l2 l3
      omega
    · rw [if_neg (by decide), if_pos (by decide)] at l2 l3
      omega
  | succ n ih =>
    intro c s h
    obtain ⟨c', s', w, hW, hw, hst, rfl⟩ := h
    obtain ⟨f, f1, f2, f3, f4, f5, f6⟩ := ih c' s' hW
    obtain ⟨l1, l2, l3⟩ := stR_lt hw hst
    unfold tg at l2 l3
    refine ⟨f, by unfold nx; rw [if_neg (by omega)]; omega, f2, ?_⟩
    rcases (show w = 0 ∨ w = 1 ∨ w = 2 by omega) with rfl | rfl | rfl
    · rw [if_neg (by decide), if_neg (by decide)] at l2 l3
      omega
    · rw [if_pos (by decide)] at l2 l3
      omega
    · rw [if_neg (by decide), if_pos (by decide)] at l2 l3
      omega
theorem p_plain (la gp s0 goal : Nat) (hs : s0 < 4860) (hgo : goal < 20) (hne : ¬ s0 / 243 = goal) : Best (stR false la gp) s0 (fun s => s / 243 = goal) (if goal < s0 / 243 then 10 * (s0 / 243 - goal) + 1 else 10 * (goal - s0 / 243) + 2) := by
  by_cases h : goal < s0 / 243
  · rw [if_pos h]
    obtain ⟨s, a1, a2, a3⟩ := p_west la gp s0 hs (s0 / 243 - goal - 1) (by omega)
    rw [show s0 / 243 - goal - 1 + 1 = s0 / 243 - goal by omega] at a2 a3
    refine ⟨⟨_, s, a3, show s / 243 = goal by omega⟩, fun n c s hW hg => ?_⟩
    have hg2 : s / 243 = goal := hg
    cases n with
    | zero =>
      obtain ⟨_, rfl⟩ := hW
      exact absurd hg2 hne
    | succ n =>
      obtain ⟨f, f1, f2, f3, f4, f5, f6⟩ := p_bound false la gp s0 n c s hW
      by_cases hf : f = 1
      · omega
      · have := f6 hf
        omega
  · rw [if_neg h]
    obtain ⟨s, a1, a2, a3⟩ := p_east la gp s0 hs (goal - s0 / 243 - 1) (by omega)
    rw [show goal - s0 / 243 - 1 + 1 = goal - s0 / 243 by omega] at a2 a3
    refine ⟨⟨_, s, a3, show s / 243 = goal by omega⟩, fun n c s hW hg => ?_⟩
    have hg2 : s / 243 = goal := hg
    cases n with
    | zero =>
      obtain ⟨_, rfl⟩ := hW
      exact absurd hg2 hne
    | succ n =>
      obtain ⟨f, f1, f2, f3, f4, f5, f6⟩ := p_bound false la gp s0 n c s hW
      by_cases hf : f = 2
      · omega
      · have := f5 hf
        omega
/-- what both must answer -/
def TR (md : Bool) (la gp s0 goal : Nat) (a f : Int32) : Prop := (s0 / 243 = goal ∧ a = 0 ∧ f = -6) ∨ (¬ s0 / 243 = goal ∧ ((∃ cc, Best (stR md la gp) s0 (fun s => s / 243 = goal) cc ∧ a = nI (cc / 10) ∧ f = nI (cc % 10)) ∨ (NoWay (stR md la gp) s0 (fun s => s / 243 = goal) ∧ a = -6 ∧ f = -6)))
theorem TR_uniq {md : Bool} {la gp s0 goal : Nat} {a f b g : Int32} (h : TR md la gp s0 goal a f) (k : TR md la gp s0 goal b g) : a = b ∧ f = g := by
  rcases h with ⟨h1, h2, h3⟩ | ⟨h1, ⟨cc, h2, h3, h4⟩ | ⟨h2, h3, h4⟩⟩
  · rcases k with ⟨k1, k2, k3⟩ | ⟨k1, _⟩
    · exact ⟨by rw [h2, k2], by rw [h3, k3]⟩
    · exact absurd h1 k1
  · rcases k with ⟨k1, k2, k3⟩ | ⟨k1, ⟨dd, k2, k3, k4⟩ | ⟨k2, k3, k4⟩⟩
    · exact absurd k1 h1
    · have := Best_uniq h2 k2
      subst this
      exact ⟨by rw [h3, k3], by rw [h4, k4]⟩
    · exact absurd k2 (fun q => Best_no h2 q)
  · rcases k with ⟨k1, k2, k3⟩ | ⟨k1, ⟨dd, k2, k3, k4⟩ | ⟨k2, k3, k4⟩⟩
    · exact absurd k1 h1
    · exact absurd h2 (fun q => Best_no k2 q)
    · exact ⟨by rw [h3, k3], by rw [h4, k4]⟩
theorem i_dist : ∀ a b : Fin 20, f_J9_abs_0f7a4 (nI a.val - nI b.val) = nI (if a.val < b.val then b.val - a.val else a.val - b.val) := by decide +kernel
/-- the class -/
theorem c_find (N : Nat) (hN : 5000 < N) (md : Bool) (la : Nat) (hla : la ≤ 5) (gp : Nat) (hg : gp < 20) (goal : Nat) (hgo : goal < 20) (pw : Nat) (hpw : pw + 6 < 74) (σ : q_S) (hlate : σ.1 pw 1 = nI la) (cell : Nat) (hc : cell < 20) (h0 : σ.1 (pw + 6) 0 = nI cell) : ∃ σ', f_X7_find N pw (nI goal) (if md then nI gp else -6) σ = some σ' ∧ (∀ p, p ≠ 74 → p ≠ 75 → p ≠ 76 → σ'.1 p = σ.1 p) ∧ TR md la gp (243 * cell + hdI (σ.1 (pw + 6)) 5) goal (σ'.1 74 3) (σ'.1 74 4) := by
  have hh := (hdI_5 (σ.1 (pw + 6)) hla).1
  have hcell : (243 * cell + hdI (σ.1 (pw + 6)) 5) / 243 = cell := by omega
  have hs : 243 * cell + hdI (σ.1 (pw + 6)) 5 < 4860 := by omega
  have f1 : ∀ p, p ≠ 74 → (q_w (q_w σ 74 3 (-6)) 74 4 (-6)).1 p = σ.1 p := fun p a => by
    rw [s_wn _ _ _ _ a, s_wn _ _ _ _ a]
  have f3 : (q_w (q_w σ 74 3 (-6)) 74 4 (-6)).1 74 3 = -6 := by rw [s_w1, s_un _ _ _ (by decide), s_w1, s_u1]
  have f4 : (q_w (q_w σ 74 3 (-6)) 74 4 (-6)).1 74 4 = -6 := by rw [s_w1, s_u1]
  unfold f_X7_find
  rw [f1 (pw + 6) (by omega), show (0 : Int32).toNatClampNeg = 0 from rfl, h0]
  by_cases he : cell = goal
  · rw [if_pos (by rw [he])]
    refine ⟨_, rfl, fun p a b d => by rw [s_wn _ _ _ _ a]; exact f1 p a, Or.inl ⟨by rw [hcell]; exact he, ?_, ?_⟩⟩
    · rw [s_w1, s_u1]
    · rw [s_w1, s_un _ _ _ (by decide)]
      exact f4
  · rw [if_neg (fun q => he ((nI_eq (by omega) (by omega)).mp q))]
    cases md with
    | false =>
      rw [if_pos (show (if false = true then nI gp else (-6 : Int32)) = -6 from rfl)]
      have hb := p_plain la gp _ goal hs hgo (by rw [hcell]; exact he)
      rw [hcell] at hb
      have hd := i_dist ⟨goal, hgo⟩ ⟨cell, hc⟩
      simp only at hd
      rw [hd]
      by_cases hlt : goal < cell
      · rw [if_neg (nI_ge hlt (by omega)), if_pos hlt]
        rw [if_pos hlt] at hb
        refine ⟨_, rfl, fun p a b d => by rw [s_wn _ _ _ _ a, s_wn _ _ _ _ a]; exact f1 p a, Or.inr ⟨by rw [hcell]; exact he, Or.inl ⟨_, hb, ?_, ?_⟩⟩⟩
        · rw [s_w1, s_un _ _ _ (by decide), s_w1, s_u1]
          congr 1
          omega
        · rw [s_w1, s_u1, show (10 * (cell - goal) + 1) % 10 = 1 by omega]
          rfl
      · rw [if_pos (nI_le (by omega) (by omega)), if_neg hlt]
        rw [if_neg hlt] at hb
        refine ⟨_, rfl, fun p a b d => by rw [s_wn _ _ _ _ a, s_wn _ _ _ _ a]; exact f1 p a, Or.inr ⟨by rw [hcell]; exact he, Or.inl ⟨_, hb, ?_, ?_⟩⟩⟩
        · rw [s_w1, s_un _ _ _ (by decide), s_w1, s_u1]
          congr 1
          omega
        · rw [s_w1, s_u1, show (10 * (goal - cell) + 2) % 10 = 2 by omega]
          rfl
    | true =>
      rw [show (if true = true then nI gp else (-6 : Int32)) = nI gp from rfl, if_neg (nI_m6 (by omega))]
      obtain ⟨σ', e1, e2⟩ := c_all N hN la hla gp hg goal hgo pw hpw (q_w (q_w σ 74 3 (-6)) 74 4 (-6)) (by rw [f1 pw (by omega)]; exact hlate) cell hc (by rw [f1 (pw + 6) (by omega)]; exact h0) he f3 f4
      rw [f1 (pw + 6) (by omega), ← hdI_q _ hla] at e2
      rw [e1]
      have hM : ∀ s w s', s < 4860 → w < 3 → stR true la gp s w = some s' → s' < 4860 := fun s w s' _ hw e => (stR_lt hw e).1
      have hsim : ∀ s w, s < 4860 → w < 3 → stC la gp (qC la s) w = (stR true la gp s w).map (qC la) := fun s w hs hw => st_sim hla gp s w hs hw
      have hG : ∀ s, s < 4860 → ((fun p => p / 3 ^ la = goal) (qC la s) ↔ (fun s => s / 243 = goal) s) := fun s _ => by
        show qC la s / 3 ^ la = goal ↔ s / 243 = goal
        rw [(qC_facts hla s 0 (by decide)).1]
      rcases e2 with ⟨cc, g1, g2, g3, g4, g5⟩ | ⟨g1, g2, g3, g4⟩
      · exact ⟨σ', rfl, fun p a b d => by rw [g1 p a b d]; exact f1 p a, Or.inr ⟨by rw [hcell]; exact he, Or.inl ⟨cc, Best_map (qC la) hs hM hsim hG g5, g2, g3⟩⟩⟩
      · exact ⟨σ', rfl, fun p a b d => by rw [g1 p a b d]; exact f1 p a, Or.inr ⟨by rw [hcell]; exact he, Or.inr ⟨NoWay_map (qC la) hs hM hsim hG g4, g2, g3⟩⟩⟩
theorem o_trip (N n : Nat) (hN : N = n + 100) (hn : 5000 < n) (x y z : Int32) : Ok (f_X9_trip N x y z) (f_X10_trip N x y z) := by
  intro σ h
  have hth := s_isThere h.1 (τ := σ) rfl x
  unfold f_X9_trip f_X9_isCell
  rcases hth with ⟨t1, t2⟩ | ⟨t1, t2, i, hi, rfl, t3⟩
  · rw [t1]
    refine ⟨-1, σ, σ, rfl, ?_, h⟩
    unfold f_X10_trip
    rw [t2, if_pos rfl]
  · rw [t1]
    simp only [Option.bind_some, show ¬ ((1 : Int32) = 0) by decide, if_false]
    rw [s_wI, s_wI]
    by_cases hy : 0 ≤ y ∧ y ≤ 19
    · rw [if_pos hy]
      by_cases hz : 0 ≤ z ∧ z ≤ 1
      · rw [if_pos hz]
        simp only [show ¬ ((1 : Int32) = 0) by decide, if_false]
        obtain ⟨goal, hgo, rfl⟩ := (s_rng y 19 19 rfl).mp hy
        have hw := rB_w h.1 i hi
        obtain ⟨la, hla, ela⟩ := hw.2.2.2.2.1
        obtain ⟨cell, hc, ec⟩ := hw.2.2.2.2.2.2.2.2.2.1 0 (by decide)
        obtain ⟨gp, hgp, egp⟩ := h.1.2.1.2
        have hgap : σ.1 0 1 = nI gp := by rw [h.1.2.1.1, egp]
        have e6 : 0 + 2 + i + 6 = 0 + 8 + i := by omega
        -- who is held
        obtain ⟨md, hmd1, hmd2⟩ : ∃ md : Bool, f_X3_isHeld 0 (0 + 2 + i) σ = bz md ∧ (md = true ↔ (σ.1 0 2 = 0 ∧ σ.1 (0 + 2 + i) 2 = 0)) := by
          unfold f_X3_isHeld
          by_cases ha : σ.1 0 2 = 0
          · by_cases hb : σ.1 (0 + 2 + i) 2 = 0
            · exact ⟨true, by rw [if_pos ha, if_pos hb]; rfl, ⟨fun _ => ⟨ha, hb⟩, fun _ => rfl⟩⟩
            · exact ⟨false, by rw [if_pos ha, if_neg hb]; rfl, ⟨fun q => Bool.noConfusion q, fun q => absurd q.2 hb⟩⟩
          · exact ⟨false, by rw [if_neg ha]; rfl, ⟨fun q => Bool.noConfusion q, fun q => absurd q.1 ha⟩⟩
        obtain ⟨σ1, c1, c2, c3⟩ := c_find N (by omega) md la (by omega) gp hgp goal hgo (0 + 2 + i) (by omega) σ ela cell hc (by rw [e6]; exact ec)
        rw [e6] at c3
        have hcls : (if ¬ (nI i < 0 ∨ 6 ≤ (nI i).toNatClampNeg) then (if f_X3_isHeld 0 (0 + 2 + (nI i).toNatClampNeg) σ = 0 then f_X9_trip_74 N z (0 + 2 + (nI i).toNatClampNeg) (nI goal) (-6) σ else f_X9_trip_74 N z (0 + 2 + (nI i).toNatClampNeg) (nI goal) (σ.1 0 1) σ) else none) = some (if z = 0 then σ1.1 74 3 else σ1.1 74 4, σ1) := by
          rw [if_pos (nI_in hi (by decide)), nI_clamp (by omega), hmd1, hgap]
          have h74 : f_X9_trip_74 N z (0 + 2 + i) (nI goal) (if md then nI gp else -6) σ = some (if z = 0 then σ1.1 74 3 else σ1.1 74 4, σ1) := by
            unfold f_X9_trip_74
            rw [c1]
            simp only [Option.bind_some]
            by_cases hz0 : z = 0
            · rw [if_pos hz0, if_pos hz0]
            · rw [if_neg hz0, if_neg hz0]
          cases md with
          | false =>
            rw [if_pos (show bz false = 0 from rfl)]
            exact h74
          | true =>
            rw [if_neg (by decide)]
            exact h74
        have hrel1 : Rel σ1 := Rel_congr (fun p _ hp => c2 p (by omega) (by omega) (by omega)) (fun k _ => by rw [c2 84 (by decide) (by decide) (by decide)]) h
        -- the reference
        have h85 : σ1.1 85 = σ.1 85 := c2 85 (by decide) (by decide) (by decide)
        have hnow := s_now σ1 hrel1
        obtain ⟨τ, hτ⟩ : ∃ τ, τ = q_w (q_w (q_cp σ1 85 86 0 0 50) 84 10 (-6)) 84 11 (-6) := ⟨_, rfl⟩
        have hn1 : Rel τ := by rw [hτ]; exact hnow.1
        have hn3 : ∀ k, k < 50 → τ.1 86 k = σ.1 85 k := fun k hk => by rw [hτ, hnow.2.2.1 k hk, h85]
        have hn4 : τ.1 87 i = nI la := by
          rw [hτ, hnow.2.2.2 i hi, c2 87 (by decide) (by decide) (by decide), hw.2.2.2.1, ela]
        have hn5 : τ.1 84 5 = nI gp := by
          rw [hτ, s_w1, s_un _ _ _ (by decide), s_w1, s_un _ _ _ (by decide), s_cp_n _ _ _ _ _ _ (by decide), c2 84 (by decide) (by decide) (by decide), egp]
        have hB0 : τ.1 86 (6 * i) = nI cell := by rw [hn3 _ (by omega), hw.2.2.2.2.2.2.2.1, ec]
        have hBu : ∀ j, j < 6 → τ.1 86 (6 * i + j) = σ.1 (0 + 8 + i) j := fun j hj => by
          rw [hn3 _ (by omega)]
          exact hw.2.2.2.2.2.2.2.2.1 t3 j hj
        have hcell : (243 * cell + hdI (σ.1 (0 + 8 + i)) 5) / 243 = cell := by
          have := (hdI_5 (σ.1 (0 + 8 + i)) (show la ≤ 5 by omega)).1
          omega
        have hthere : f_X10_isThere (nI i) σ1 = 1 := by
          rw [← t2]
          unfold f_X10_isThere
          rw [c2 84 (by decide) (by decide) (by decide)]
        have href : ∃ σ2, f_X10_trip N (nI i) (nI goal) z σ1 = some (if z = 0 then σ1.1 74 3 else σ1.1 74 4, σ2) ∧ Rel σ2 := by
          unfold f_X10_trip f_X10_isCell
          rw [hthere, s_wM, s_wM, if_pos hy, if_pos hz, hN, s_asNow, ← hτ, ← hN]
          simp only [show ¬ ((1 : Int32) = 0) by decide, if_false, Option.bind_some]
          rw [show (6 : Int32) * nI i = nI (6 * i) from pk_mul 6 i, if_pos (nI_in (show 6 * i < 50 by omega) (by decide)), nI_clamp (show 6 * i < _ by omega), hB0]
          by_cases he : cell = goal
          · have := TR_uniq c3 (Or.inl ⟨by rw [hcell]; exact he, rfl, rfl⟩)
            rw [this.1, this.2, if_pos (by rw [he])]
            refine ⟨τ, ?_, hn1⟩
            by_cases hz0 : z = 0
            · rw [if_pos hz0, if_pos hz0]
            · rw [if_neg hz0, if_neg hz0]
          · rw [if_neg (fun q => he ((nI_eq (by omega) (by omega)).mp q))]
            have htt : f_X10_tripTo N (nI i) (nI goal) τ = f_X10_tripTo_27 N (nI i) (nI goal) (bz md) N 0 τ := by
              unfold f_X10_tripTo
              rw [s_hasP hi hw τ (hn3 _ (by omega)), show (48 : Int32).toNatClampNeg = 48 from rfl, hn3 48 (by decide), ← h.1.2.2.1.1]
              simp only [Option.bind_some]
              by_cases ha : σ.1 (0 + 2 + i) 2 = 0
              · rw [if_pos ha]
                by_cases hb : σ.1 0 2 = 0
                · rw [if_pos hb, hmd2.mpr ⟨hb, ha⟩]
                  rfl
                · rw [if_neg hb]
                  have : md = false := by
                    cases hm : md
                    · rfl
                    · exact absurd (hmd2.mp hm).1 hb
                  rw [this]
                  rfl
              · rw [if_neg ha]
                have : md = false := by
                  cases hm : md
                  · rfl
                  · exact absurd (hmd2.mp hm).2 ha
                rw [this]
                rfl
            obtain ⟨r, σ2, r1, r2, r3⟩ := r_all N (by omega) i hi md la (by omega) gp hgp goal hgo τ hn4 hn5 (σ.1 (0 + 8 + i)) cell hc hB0 hBu
            have hrel2 : Rel σ2 := Rel_congr (fun p _ hp => r2 p (by omega) (by omega)) (fun k _ => by rw [r2 84 (by decide) (by decide)]) hn1
            rw [htt, r1]
            simp only [Option.bind_some]
            rcases r3 with ⟨cc, g1, g2, g3⟩ | ⟨g1, g2⟩
            · have := TR_uniq c3 (Or.inr ⟨by rw [hcell]; exact he, Or.inl ⟨cc, g3, rfl, rfl⟩⟩)
              rw [this.1, this.2, g1, if_pos (nI_pos' (by omega))]
              refine ⟨σ2, ?_, hrel2⟩
              by_cases hz0 : z = 0
              · rw [if_pos hz0, if_pos hz0, show nI cc / 10 = nI (cc / 10) from pk_div (d := 10) (by omega) (by decide) (by decide)]
              · rw [if_neg hz0, if_neg hz0, show q_rem (nI cc) 10 = nI (cc % 10) from pk_rem (d := 10) (by omega) (by decide) (by decide)]
            · have := TR_uniq c3 (Or.inr ⟨by rw [hcell]; exact he, Or.inr ⟨g2, rfl, rfl⟩⟩)
              rw [this.1, this.2, g1, if_neg (show ¬ (0 : Int32) ≤ -1 by decide), ite_self]
              exact ⟨σ2, rfl, hrel2⟩
        obtain ⟨σ2, q1, q2⟩ := href
        exact ⟨_, σ1, σ2, hcls, q1, q2⟩
      · rw [if_neg hz]
        simp only [show ¬ ((1 : Int32) = 0) by decide, if_false, if_true]
        refine ⟨-2, σ, σ, rfl, ?_, h⟩
        unfold f_X10_trip f_X10_isCell
        rw [t2, s_wM, s_wM, if_pos hy, if_neg hz, if_neg (by decide), if_neg (by decide), if_pos rfl]
    · rw [if_neg hy, if_pos rfl]
      refine ⟨-1, σ, σ, rfl, ?_, h⟩
      unfold f_X10_trip f_X10_isCell
      rw [t2, s_wM, if_neg hy, if_neg (by decide), if_pos rfl]
