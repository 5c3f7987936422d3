/-! a walker's deed: whyNot and act against verb -/
theorem s_hasC {σ : q_S} {r : Nat} {B lt sg : Nat → Int32} {th ar gp sc : Int32} (h : rB σ r B lt sg th ar gp sc) (i : Nat) (hi : i < 6) : f_X3_has r (nI i) σ = some (σ.1 (r + 2 + i) 0) := by
  have hb := (rB_w h i hi).1
  unfold f_X3_has
  rw [s_wI, if_pos ((s_rng (nI i) 5 5 rfl).mpr ⟨i, hi, rfl⟩), if_neg (by decide), if_pos (nI_in hi (by decide)), nI_clamp (by omega)]
  rcases hb with e | e
  · rw [e]
    rfl
  · rw [e]
    rfl
def bz (b : Bool) : Int32 := if b then 1 else 0
theorem bz_or : ∀ a0 a1 a2 a3 a4 a5 b0 b1 b2 b3 b4 b5 : Bool, rT (bz a0) (bz a1) (bz a2) (bz a3) (bz a4) (bz a5) ||| rT (bz b0) (bz b1) (bz b2) (bz b3) (bz b4) (bz b5) = rT (bz (a0 || b0)) (bz (a1 || b1)) (bz (a2 || b2)) (bz (a3 || b3)) (bz (a4 || b4)) (bz (a5 || b5)) := by decide +kernel
theorem bz_mask : ∀ (a0 a1 a2 a3 a4 a5 : Bool) (i : Fin 6), decide ((rT (bz a0) (bz a1) (bz a2) (bz a3) (bz a4) (bz a5)) &&& (((1 : Int32) <<< (nI i.val &&& 31)) ^^^ (-1)) = 0) = ((((((true && ((0 == i.val) || !a0)) && ((1 == i.val) || !a1)) && ((2 == i.val) || !a2)) && ((3 == i.val) || !a3)) && ((4 == i.val) || !a4)) && ((5 == i.val) || !a5)) := by decide +kernel
theorem s_gap : ∀ a b g : Fin 20, decide (f_J9_abs_0f7a4 (nI a.val - nI b.val) ≤ nI g.val) = !decide (f_X10_in (nI a.val - nI b.val) (-(nI g.val)) (nI g.val) = 0) := by decide +kernel
/-- what the class's mask says -/
def sF (σ : q_S) (r i : Nat) (c : Int32) (j : Nat) : Bool := (j == i) || !(decide (vW σ r c j = 1) || decide (vO σ r c j = 1))
def sFree (σ : q_S) (r i : Nat) (c : Int32) : Bool := (((((true && sF σ r i c 0) && sF σ r i c 1) && sF σ r i c 2) && sF σ r i c 3) && sF σ r i c 4) && sF σ r i c 5
theorem vW_bz (σ : q_S) (r : Nat) (c : Int32) (j : Nat) : vW σ r c j = bz (decide (vW σ r c j = 1)) := by
  unfold vW bz
  split
  · rfl
  · split <;> rfl
theorem vO_bz (σ : q_S) (r : Nat) (c : Int32) (j : Nat) : vO σ r c j = bz (decide (vO σ r c j = 1)) := by
  unfold vO bz
  split
  · rfl
  · split <;> rfl
theorem s_freeC (σ : q_S) (r i : Nat) (hi : i < 6) (c : Int32) : ((rT6 (vW σ r c) ||| rT6 (vO σ r c)) &&& (((1 : Int32) <<< (nI i &&& 31)) ^^^ (-1)) = 0) ↔ sFree σ r i c = true := by
  have h1 : rT6 (vW σ r c) ||| rT6 (vO σ r c) = rT (bz (decide (vW σ r c 0 = 1) || decide (vO σ r c 0 = 1))) (bz (decide (vW σ r c 1 = 1) || decide (vO σ r c 1 = 1))) (bz (decide (vW σ r c 2 = 1) || decide (vO σ r c 2 = 1))) (bz (decide (vW σ r c 3 = 1) || decide (vO σ r c 3 = 1))) (bz (decide (vW σ r c 4 = 1) || decide (vO σ r c 4 = 1))) (bz (decide (vW σ r c 5 = 1) || decide (vO σ r c 5 = 1))) := by
    have q := bz_or (decide (vW σ r c 0 = 1)) (decide (vW σ r c 1 = 1)) (decide (vW σ r c 2 = 1)) (decide (vW σ r c 3 = 1)) (decide (vW σ r c 4 = 1)) (decide (vW σ r c 5 = 1)) (decide (vO σ r c 0 = 1)) (decide (vO σ r c 1 = 1)) (decide (vO σ r c 2 = 1)) (decide (vO σ r c 3 = 1)) (decide (vO σ r c 4 = 1)) (decide (vO σ r c 5 = 1))
    rw [← vW_bz, ← vW_bz, ← vW_bz, ← vW_bz, ← vW_bz, ← vW_bz, ← vO_bz, ← vO_bz, ← vO_bz, ← vO_bz, ← vO_bz, ← vO_bz] at q
    exact q
  rw [h1]
  have h2 := bz_mask (decide (vW σ r c 0 = 1) || decide (vO σ r c 0 = 1)) (decide (vW σ r c 1 = 1) || decide (vO σ r c 1 = 1)) (decide (vW σ r c 2 = 1) || decide (vO σ r c 2 = 1)) (decide (vW σ r c 3 = 1) || decide (vO σ r c 3 = 1)) (decide (vW σ r c 4 = 1) || decide (vO σ r c 4 = 1)) (decide (vW σ r c 5 = 1) || decide (vO σ r c 5 = 1)) ⟨i, hi⟩
  unfold sFree sF
  rw [← h2, decide_eq_true_iff]
/-- the reference's loop -/
theorem s_freeStep {σ τ : q_S} (h : DR σ τ) (N m i j : Nat) (hi : i < 6) (hj : j < 6) (c : Int32) (f : Bool) : f_X10_stepTo_120 N (nI i) c (m + 1) (bz f) (nI j) τ = f_X10_stepTo_120 N (nI i) c m (bz (f && sF σ 17 i c j)) (nI (j + 1)) τ := by
  have hw := DR_w h j hj
  rw [f_X10_stepTo_120, if_neg (show ¬ (6 : Int32) ≤ nI j from nI_ge hj (by decide)), nI_1]
  cases f
  · exact if_pos rfl
  · rw [if_neg (show ¬ bz true = 0 by decide)]
    unfold sF
    by_cases hji : j = i
    · subst hji
      rw [if_pos rfl, beq_self_eq_true]
      rfl
    · have hne : ¬ nI j = nI i := by
        intro e
        have := congrArg Int32.toInt e
        rw [nI_toInt (by omega), nI_toInt (by omega)] at this
        omega
      rw [if_neg hne, s_isT h rfl j hj, beq_false_of_ne hji]
      unfold vW vO
      rcases hw.1 with e0 | e0
      · rw [if_pos e0, if_pos e0, if_pos e0]
        rfl
      · have n0 : ¬ σ.1 (17 + 2 + j) 0 = 0 := by rw [e0]; decide
        rw [if_neg n0, if_neg n0, if_neg n0, show (6 : Int32) * nI j = nI (6 * j) from pk_mul 6 j, if_pos (nI_in (show 6 * j < 50 by omega) (by decide)), nI_clamp (by omega), hw.2.2.2.2.2.2.2.1, s_otherM hj hw e0 h.2.2.1.1 h.2.2.1.2 τ (fun _ _ => rfl) rfl]
        simp only [Option.bind_some]
        by_cases h1 : σ.1 (17 + 8 + j) 0 = c
        · rw [if_pos h1, if_pos h1]
          rfl
        · rw [if_neg h1, if_neg h1]
          by_cases h2 : sO σ 17 j = c
          · rw [if_pos h2, if_pos h2]
            rfl
          · rw [if_neg h2, if_neg h2]
            rfl
theorem s_freeM {σ τ : q_S} (h : DR σ τ) (n i : Nat) (hi : i < 6) (c : Int32) : f_X10_stepTo_120 (n + 100) (nI i) c (n + 100) 1 0 τ = if sFree σ 17 i c = true then (f_X10_moves (n + 100) (nI i) c τ).bind fun z => some (0, z) else some (4, τ) := by
  have st := fun m j (hj : j < 6) f => s_freeStep h (n + 100) m i j hi hj c f
  rw [show f_X10_stepTo_120 (n + 100) (nI i) c (n + 100) 1 0 τ = f_X10_stepTo_120 (n + 100) (nI i) c (n + 99 + 1) (bz true) (nI 0) τ from rfl, st _ 0 (by decide), show n + 99 = n + 98 + 1 from rfl, st _ 1 (by decide), show n + 98 = n + 97 + 1 from rfl, st _ 2 (by decide), show n + 97 = n + 96 + 1 from rfl, st _ 3 (by decide), show n + 96 = n + 95 + 1 from rfl, st _ 4 (by decide), show n + 95 = n + 94 + 1 from rfl, st _ 5 (by decide), show n + 94 = n + 93 + 1 from rfl, f_X10_stepTo_120, if_pos (show (6 : Int32) ≤ nI (5 + 1) by decide)]
  show (if bz (sFree σ 17 i c) = 0 then _ else _) = _
  cases sFree σ 17 i c
  · rfl
  · rfl
/-- a walker steps to c on both sides -/
theorem s_go {σ τ : q_S} (h : DR σ τ) (n i : Nat) (hi : i < 6) (hth : σ.1 (17 + 2 + i) 0 = 1) (c : Int32) (hc : rng c 20) (hadj : c = σ.1 (17 + 8 + i) 0 ∨ c = σ.1 (17 + 8 + i) 0 + 1 ∨ c = σ.1 (17 + 8 + i) 0 + (-1)) : ∃ σ' τ', f_X8_stepTo (n + 100) (17 + 2 + i) c σ = some σ' ∧ f_X10_moves (n + 100) (nI i) c τ = some τ' ∧ DR σ' τ' ∧ FC σ σ' ∧ FM τ τ' := by
  have hw := DR_w h i hi
  obtain ⟨σ', a1, a2, a3, a4, a5⟩ := s_stepC n (17 + 2 + i) c σ
  obtain ⟨τ', b1, b2, b3, b4, b5⟩ := s_moveM n i hi c τ
  have e6 : 17 + 2 + i + 6 = 17 + 8 + i := by omega
  rw [e6] at a2 a4 a5
  have ew : σ'.1 (17 + 2 + i) = σ.1 (17 + 2 + i) := a2 _ (by omega)
  refine ⟨σ', τ', a1, b1, DR_one i hi h (fun k hk h1 h2 => a2 _ (by omega)) (by rw [ew]) b2 ?_ (fun k hk h1 h2 h3 => b5 k h1), ⟨fun p hp => a2 p (by omega), a3⟩, b2⟩
  rw [ew]
  exact rW_move hw hth hc hadj a4 a5 b3 b4 (b5 _ (by omega)) (b5 _ (by omega))
/-- a lockstep deed: barred alike, or done alike -/
def Deed (C : Option Int32) (A : Option q_S) (M : Option (Int32 × q_S)) (σ τ : q_S) : Prop :=
  (∃ r, ¬ r = 0 ∧ rng r 7 ∧ C = some r ∧ M = some (r, τ)) ∨ (C = some 0 ∧ ∃ σ' τ', A = some σ' ∧ M = some (0, τ') ∧ DR σ' τ' ∧ FC σ σ' ∧ FM τ τ')
theorem s_wait {σ τ : q_S} (h : DR σ τ) (n i : Nat) (hi : i < 6) : Deed (f_X3_whyNot (n + 100) 17 (nI i) 61 σ) (f_X3_act (n + 100) 17 (nI i) 61 σ) (f_X10_verb (n + 100) (nI i) 61 τ) σ τ := by
  have hw := DR_w h i hi
  unfold f_X3_whyNot f_X3_act f_X10_verb f_X10_waits
  rw [if_neg (show ¬ (61 : Int32) = 126 by decide), if_neg (show ¬ (61 : Int32) = 46 by decide), if_neg (show ¬ (61 : Int32) = 126 by decide), if_neg (show ¬ (61 : Int32) = 46 by decide), if_pos (show (61 : Int32) = 61 from rfl), if_pos (show (61 : Int32) = 61 from rfl), s_hasC h i hi, s_isT h rfl i hi]
  simp only [Option.bind_some]
  rcases hw.1 with e0 | e0
  · rw [if_pos e0, if_pos e0, if_pos e0]
    exact Or.inl ⟨1, by decide, ⟨1, by decide, rfl⟩, rfl, rfl⟩
  · have n0 : ¬ σ.1 (17 + 2 + i) 0 = 0 := by rw [e0]; decide
    rw [if_neg n0, if_neg n0, if_neg n0, if_neg (show ¬ (61 : Int32) = 42 by decide), if_pos (nI_in hi (by decide)), nI_clamp (by omega)]
    unfold f_X3_actAlone f_X3_actAlone_26
    rw [if_neg (show ¬ (61 : Int32) = 42 by decide), if_neg (show ¬ (61 : Int32) = 42 by decide), if_neg (show ¬ (61 : Int32) = 60 by decide), if_neg (show ¬ (61 : Int32) = 62 by decide), show (6 : Int32) * nI i = nI (6 * i) from pk_mul 6 i, if_pos (nI_in (show 6 * i < 50 by omega) (by decide)), nI_clamp (by omega), hw.2.2.2.2.2.2.2.1, show 17 + 2 + i + 6 = 17 + 8 + i by omega]
    obtain ⟨σ', τ', a1, a2, a3, a4, a5⟩ := s_go h n i hi e0 (σ.1 (17 + 8 + i) 0) (hw.2.2.2.2.2.2.2.2.2.1 0 (by decide)) (Or.inl rfl)
    refine Or.inr ⟨rfl, σ', τ', ?_, ?_, a3, a4, a5⟩
    · rw [show (0 : Int32).toNatClampNeg = 0 from rfl, a1]
      rfl
    · rw [a2]
      rfl
theorem s_stone {σ τ : q_S} (h : DR σ τ) (n i : Nat) (hi : i < 6) : Deed (f_X3_whyNot (n + 100) 17 (nI i) 42 σ) (f_X3_act (n + 100) 17 (nI i) 42 σ) (f_X10_verb (n + 100) (nI i) 42 τ) σ τ := by
  have hw := DR_w h i hi
  unfold f_X3_whyNot f_X3_act f_X10_verb f_X10_stone
  rw [if_neg (show ¬ (42 : Int32) = 126 by decide), if_neg (show ¬ (42 : Int32) = 46 by decide), if_neg (show ¬ (42 : Int32) = 126 by decide), if_neg (show ¬ (42 : Int32) = 46 by decide), if_neg (show ¬ (42 : Int32) = 61 by decide), if_pos (show (42 : Int32) = 42 from rfl), if_pos (show (42 : Int32) = 42 from rfl), s_hasC h i hi, s_isT h rfl i hi]
  simp only [Option.bind_some]
  rcases hw.1 with e0 | e0
  · rw [if_pos e0, if_pos e0, if_pos e0]
    exact Or.inl ⟨1, by decide, ⟨1, by decide, rfl⟩, rfl, rfl⟩
  have n0 : ¬ σ.1 (17 + 2 + i) 0 = 0 := by rw [e0]; decide
  have hf : ∀ {σ' : q_S}, (∀ p, p ≠ 17 + 2 + i → p ≠ 17 + 8 + i → σ'.1 p = σ.1 p) → ∀ k, k < 17 → k ≠ 2 + i → k ≠ 8 + i → σ'.1 (17 + k) = σ.1 (17 + k) := fun hh k hk h1 h2 => hh _ (by omega) (by omega)
  rw [if_neg n0, if_neg n0, if_neg n0, if_pos (nI_in hi (by decide)), if_pos (nI_in hi (by decide)), nI_clamp (by omega), s_otherM hi hw e0 h.2.2.1.1 h.2.2.1.2 τ (fun _ _ => rfl) rfl, s_hasP hi hw τ rfl]
  simp only [Option.bind_some]
  unfold f_X3_isStoneInReach f_X3_actAlone f_X3_actAlone_26 f_X10_stone_43
  rw [if_pos (show (42 : Int32) = 42 from rfl), if_pos (show (42 : Int32) = 42 from rfl), s_otherC σ 17 i (rW_lt hw), s_hasP hi hw τ rfl, show (36 : Int32) + nI i = nI (36 + i) from nI_add 36 i, show (42 : Int32) + nI i = nI (42 + i) from nI_add 42 i, show (6 : Int32) * nI i = nI (6 * i) from pk_mul 6 i]
  simp only [Option.bind_some]
  have e6 : 17 + 2 + i + 6 = 17 + 8 + i := by omega
  rcases hw.2.1 with e2 | e2
  · have hsO : sO σ 17 i = if σ.1 17 2 = 0 then σ.1 (17 + 8 + i) (σ.1 (17 + 2 + i) 1).toNatClampNeg else -6 := if_pos e2
    rcases h.2.2.1.2 with e | e
    · -- he parts
      have ew : σ.1 17 2 = 0 := by rw [h.2.2.1.1, e]
      rw [if_pos ew] at hsO
      obtain ⟨l, hl, el⟩ := rW_lt hw
      rw [el, nI_clamp (by omega)] at hsO
      have hr : rng (sO σ 17 i) 20 := by rw [hsO]; exact hw.2.2.2.2.2.2.2.2.2.1 l hl
      obtain ⟨v, hv, ev⟩ := hr
      rw [if_pos e2, if_pos ew, if_neg (show ¬ (1 : Int32) = 0 by decide), if_pos e2, if_neg (show ¬ sO σ 17 i < 0 by rw [ev]; exact nI_pos (by omega)), if_pos e2, if_pos e2, if_pos (nI_in (show 36 + i < 50 by omega) (by decide)), if_pos (nI_in (show 42 + i < 50 by omega) (by decide)), nI_clamp (by omega), nI_clamp (by omega)]
      refine Or.inr ⟨rfl, _, _, rfl, rfl, ?_, ?_, ?_⟩
      · have hm : FM τ (q_w (q_w τ 86 (36 + i) (sO σ 17 i)) 86 (42 + i) 1) := ⟨fun p hp => by rw [s_wn _ _ _ _ hp, s_wn _ _ _ _ hp], rfl⟩
        refine DR_one i hi h (hf fun p h1 h2 => ?_) ?_ hm ?_ (fun k hk h1 h2 h3 => ?_)
        · unfold f_X8_part
          rw [s_wn _ _ _ _ h1, s_wn _ _ _ _ h1, s_wn _ _ _ _ h1]
        · unfold f_X8_part
          simp only [s_w1]
          rfl
        · unfold f_X8_part
          simp only [s_w1]
          rw [s_wn _ _ _ _ (show 17 + 8 + i ≠ 17 + 2 + i by omega), s_wn _ _ _ _ (show 17 + 8 + i ≠ 17 + 2 + i by omega), s_wn _ _ _ _ (show 17 + 8 + i ≠ 17 + 2 + i by omega)]
          refine rW_part (c := sO σ 17 i) (e := 1) hw rfl rfl rfl rfl rfl (Or.inr rfl) ⟨v, hv, ev⟩ (fun k hk => ?_) ?_ ?_
          · rw [s_un _ _ _ (by omega), s_un _ _ _ (by omega)]
          · rw [s_un _ _ _ (by omega), s_u1]
          · rw [s_u1]
        · rw [s_w1, s_un _ _ _ h3, s_w1, s_un _ _ _ h2]
      · refine ⟨fun p hp => ?_, rfl⟩
        unfold f_X8_part
        rw [s_wn _ _ _ _ (by omega), s_wn _ _ _ _ (by omega), s_wn _ _ _ _ (by omega)]
      · exact ⟨fun p hp => by rw [s_wn _ _ _ _ hp, s_wn _ _ _ _ hp], rfl⟩
    · have ew : ¬ σ.1 17 2 = 0 := by rw [h.2.2.1.1, e]; decide
      rw [if_neg ew] at hsO
      rw [if_pos e2, if_neg ew, if_pos rfl, hsO, if_pos (show (-6 : Int32) < 0 by decide)]
      exact Or.inl ⟨5, by decide, ⟨5, by decide, rfl⟩, rfl, rfl⟩
  · have n2 : ¬ σ.1 (17 + 2 + i) 2 = 0 := by rw [e2]; decide
    have hsO : sO σ 17 i = σ.1 (17 + 2 + i) 3 := if_neg n2
    obtain ⟨h36, h42, c, hc, h3⟩ := hw.2.2.2.2.2.2.1 e2
    rw [if_neg n2, if_neg n2, hsO, if_neg (show ¬ σ.1 (17 + 2 + i) 3 < 0 by rw [h3]; exact nI_pos (by omega)), if_neg n2, if_neg n2, if_pos (nI_in (show 6 * i < 50 by omega) (by decide)), if_pos (nI_in (show 36 + i < 50 by omega) (by decide)), nI_clamp (show 6 * i < _ by omega), nI_clamp (show 36 + i < _ by omega), hw.2.2.2.2.2.2.2.1, e6, show (0 : Int32).toNatClampNeg = 0 from rfl]
    by_cases hq : σ.1 (17 + 2 + i) 3 = σ.1 (17 + 8 + i) 0
    · rw [if_pos hq, if_neg (show ¬ (1 : Int32) = 0 by decide), if_pos hq]
      obtain ⟨σ', b1, b2, b3, b4, b5⟩ := s_beginC n (17 + 2 + i) (σ.1 (17 + 8 + i) 0) σ
      obtain ⟨τ', c1, c2, c3, c4⟩ := s_anewM n i hi (q_w τ 86 (36 + i) (-6))
      rw [e6] at b2 b5
      have hm : FM τ τ' := FM_tr ⟨fun p hp => s_wn _ _ _ _ hp, rfl⟩ c2
      have g0 : (q_w τ 86 (36 + i) (-6)).1 86 (6 * i) = τ.1 86 (6 * i) := by rw [s_w1, s_un _ _ _ (by omega)]
      have h0 : σ'.1 (17 + 2 + i) 0 = σ.1 (17 + 2 + i) 0 := by rw [b4]; rfl
      refine Or.inr ⟨rfl, σ', τ', by rw [b1]; rfl, by rw [c1]; rfl, DR_one i hi h (hf b2) h0 hm ?_ (fun k hk h1 h2 h3 => ?_), ⟨fun p hp => b2 p (by omega) (by omega), b3⟩, hm⟩
      · refine rW_anew hw h0 (by rw [b4]; rfl) (by rw [b4]; rfl) (by rw [b4]; rfl) b5 ?_ (fun _ k hk => ?_) ?_
        · rw [← g0]
          exact c3 0 (by decide)
        · rw [c3 k hk, g0]
        · rw [c4 _ (by omega), s_w1, s_u1]
      · rw [c4 k h1, s_w1, s_un _ _ _ h2]
    · rw [if_neg hq, if_pos rfl, if_neg hq]
      exact Or.inl ⟨5, by decide, ⟨5, by decide, rfl⟩, rfl, rfl⟩
