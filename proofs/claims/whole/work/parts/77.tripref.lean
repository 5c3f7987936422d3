/-! trip: the reference's search -/
theorem i_ss (x y : Int32) : x - (x - y) = y := by
  rw [Int32.sub_eq_add_neg, Int32.neg_sub, Int32.sub_eq_add_neg, Int32.add_comm, Int32.add_assoc, Int32.add_comm (-x) x, Int32.add_right_neg, Int32.add_zero]
theorem r_222 (N : Nat) (k164 : Int32 → Int32 → q_S → Option (Int32 × q_S)) (x1 x2 x3 x7 x8 x9 x10 x11 x6 : Int32) (m v : Nat) (hv : v < 3) (σ : q_S) : f_X10_tripTo_222 N k164 x1 x2 x3 x7 x8 x9 x10 x11 (m + 1) x6 (nI v) σ = f_X10_tripTo_251 N k164 (fun x6 x12 σ => f_X10_tripTo_222 N k164 x1 x2 x3 x7 x8 x9 x10 x11 m x6 x12 σ) x1 x2 x3 x6 x7 x8 x9 x10 x11 (nI v) x10 (q_s2 v) σ := by
  rcases (show v = 0 ∨ v = 1 ∨ v = 2 by omega) with rfl | rfl | rfl
  · rw [f_X10_tripTo_222, if_neg (by decide), if_neg (by decide), if_neg (by decide), show q_s2 0 = 0 from rfl]
  · rw [f_X10_tripTo_222, if_neg (by decide), if_pos (by decide), show q_s2 1 = -1 from rfl]
  · rw [f_X10_tripTo_222, if_neg (by decide), if_neg (by decide), if_pos (by decide), show q_s2 2 = 1 from rfl]
theorem r_backBy (N la : Nat) (hN : 5 < N) (hla : la ≤ 5) (to h : Nat) (ht : to < 20) (hh : h < 243) : f_X10_backBy N (nI (243 * to + h)) (nI la) = some (nI to - Int32.ofInt (ldI la h)) := by
  have e1 : nI (243 * to + h) / 243 = nI to := by
    rw [show (243 : Int32) = nI 243 from rfl, pk_div (by omega) (by decide) (by decide)]
    congr 1
    omega
  have e2 : q_rem (nI (243 * to + h)) 243 = nI h := by
    refine (pk_rem (d := 243) (by omega) (by decide) (by decide)).trans ?_
    congr 1
    omega
  have h3 := i_back N la hla la 0 N h (nI to) (by omega) (by omega) (by omega)
  rw [nI_0] at h3
  unfold f_X10_backBy
  rw [e1, e2, h3]
theorem r_251 (N : Nat) (hN : 5 < N) (k164 k222 : Int32 → Int32 → q_S → Option (Int32 × q_S)) (k : Nat) (hk : k < 6) (md : Bool) (la : Nat) (hla : la ≤ 5) (gp : Nat) (hg : gp < 20) (s : Nat) (hs : s < 4860) (v : Nat) (hv : v < 3) (x2 x6 x7 x8 x11 : Int32) (σ : q_S) (h87 : σ.1 87 k = nI la) (h84 : σ.1 84 5 = nI gp) : f_X10_tripTo_251 N k164 k222 (nI k) x2 (bz md) x6 x7 x8 (nI s) (nI (s / 243)) x11 (nI v) (nI (s / 243)) (q_s2 v) σ = (stR md la gp s v).elim (k222 x6 (nI (v + 1)) σ) (fun s' => f_X10_tripTo_328 N k164 k222 (nI k) x2 (bz md) x6 x7 x8 (nI s) (nI (s / 243)) x11 (nI v) (nI s') 1 σ) := by
  obtain ⟨c1, _, c3⟩ := i_cell ⟨s / 243, by omega⟩ ⟨v, hv⟩
  unfold f_X10_tripTo_251
  rw [c1]
  unfold stR
  by_cases hval : 1 ≤ tg (s / 243) v ∧ tg (s / 243) v ≤ 20
  · have c4 := c3 hval
    have e81 : q_rem (nI s) 81 = nI (s % 81) := pk_rem (d := 81) (by omega) (by decide) (by decide)
    have ethen : (243 : Int32) * nI (tg (s / 243) v - 1) + nI (s % 81) * 3 + nI v = nI (243 * (tg (s / 243) v - 1) + s % 81 * 3 + v) := by
      rw [show (243 : Int32) * nI (tg (s / 243) v - 1) = nI (243 * (tg (s / 243) v - 1)) from pk_mul 243 _, show nI (s % 81) * 3 = nI (s % 81 * 3) from pk_mul _ 3, nI_add, nI_add]
    rw [if_pos hval, if_neg (show ¬ (1 : Int32) = 0 by decide), c4, e81, ethen]
    by_cases hv0 : v = 0
    · subst hv0
      rw [if_pos (show nI 0 = 0 from rfl), if_pos ⟨hval, Or.inl rfl⟩]
      rfl
    · rw [if_neg (nI_ne0 (by omega) (by omega))]
      cases md with
      | false =>
        rw [if_pos (show bz false = 0 from rfl), if_pos ⟨hval, Or.inr (Or.inl rfl)⟩]
        rfl
      | true =>
        rw [if_neg (show ¬ bz true = 0 by decide), if_pos (nI_in hk (by decide)), nI_clamp (show k < _ by omega), h87, h84, Nat.add_assoc, r_backBy N la hN hla _ _ (by omega) (by omega)]
        simp only [Option.bind_some]
        rw [i_ss, s_wM]
        have hl := (i_abs2 hla (s % 81 * 3 + v) hg).2
        by_cases hm : (-(gp : Int) ≤ ldI la (s % 81 * 3 + v) ∧ ldI la (s % 81 * 3 + v) ≤ gp)
        · rw [if_pos (hl.mpr hm), if_neg (show ¬ (1 : Int32) = 0 by decide), if_pos ⟨hval, Or.inr (Or.inr hm)⟩]
          rfl
        · rw [if_neg (fun q => hm (hl.mp q)), if_pos rfl, if_neg (fun q => by
            rcases q.2 with q | q | q
            · exact hv0 q
            · cases q
            · exact hm q), f_X10_tripTo_328, if_pos rfl, nI_1]
          rfl
  · rw [if_neg hval, if_pos rfl, if_neg (fun q => hval q.1), f_X10_tripTo_328, if_pos rfl, nI_1]
    rfl
theorem r_328v (N : Nat) (k164 k222 : Int32 → Int32 → q_S → Option (Int32 × q_S)) (x1 x2 x3 x6 x7 x8 x9 x10 x11 : Int32) (v s y : Nat) (hs : s < 4860) (hy : y < 2 ^ 31) (σ : q_S) (h : σ.1 90 s = nI y) : f_X10_tripTo_328 N k164 k222 x1 x2 x3 x6 x7 x8 x9 x10 x11 (nI v) (nI s) 1 σ = k222 x6 (nI (v + 1)) σ := by
  rw [f_X10_tripTo_328, if_neg (by decide), if_pos (nI_in hs (by decide)), nI_clamp (by omega), h, if_pos (nI_pos' hy), nI_1]
theorem r_328n (N : Nat) (k164 k222 : Int32 → Int32 → q_S → Option (Int32 × q_S)) (x1 x2 x3 x7 x8 x10 : Int32) (v s s' c many : Nat) (hv : v < 3) (hs : s < 4860) (hs' : s' < 4860) (hc : c < 100000) (hm : many < 4860) (σ : q_S) (h : σ.1 90 s' = -1) (hsc : σ.1 90 s = nI c) : f_X10_tripTo_328 N k164 k222 x1 x2 x3 (nI many) x7 x8 (nI s) x10 (nI (c / 10)) (nI v) (nI s') 1 σ = k222 (nI (many + 1)) (nI (v + 1)) (q_w (q_w σ 90 s' (nI (nx c v))) 91 many (nI s')) := by
  rw [f_X10_tripTo_328, if_neg (by decide), if_pos (nI_in hs' (by decide)), nI_clamp (show s' < _ by omega), h, if_neg (by decide), if_pos (nI_in hs (by decide)), nI_clamp (show s < _ by omega), hsc]
  unfold f_X10_tripTo_378
  rw [if_pos (nI_in hs' (by decide)), if_pos (nI_in hm (by decide)), if_pos (nI_in hs' (by decide)), if_pos (nI_in hm (by decide)), nI_clamp (show s' < _ by omega), nI_clamp (show many < _ by omega), nI_1, nI_1, nI_1]
  rw [show q_rem (nI c) 10 = nI (c % 10) from pk_rem (d := 10) (by omega) (by decide) (by decide), show (10 : Int32) * nI (c / 10 + 1) = nI (10 * (c / 10 + 1)) from pk_mul 10 _, nI_add, nI_add]
  unfold nx
  by_cases h0 : c < 10
  · rw [if_pos h0, if_pos (show nI (c / 10) = 0 by rw [show c / 10 = 0 by omega]; rfl), show 10 * (c / 10 + 1) + v = 10 + v by omega]
  · rw [if_neg h0, if_neg (nI_ne0 (by omega) (by omega)), show 10 * (c / 10 + 1) + c % 10 = c + 10 by omega]
/-- the reference's queue and marks -/
def RS (σ0 σ : q_S) (q c : Nat → Nat) (many : Nat) : Prop := (∀ p, p ≠ 90 → p ≠ 91 → σ.1 p = σ0.1 p) ∧ (∀ j, j < many → σ.1 91 j = nI (q j) ∧ σ.1 90 (q j) = nI (c j)) ∧ (∀ s, s < 4860 → (∀ j, j < many → q j ≠ s) → σ.1 90 s = -1)
theorem r_ways (N : Nat) (hN : 5 < N) (k164 : Int32 → Int32 → q_S → Option (Int32 × q_S)) (k : Nat) (hk : k < 6) (md : Bool) (la : Nat) (hla : la ≤ 5) (gp : Nat) (hg : gp < 20) (x2 x7 : Int32) (σ0 : q_S) (h87 : σ0.1 87 k = nI la) (h84 : σ0.1 84 5 = nI gp) (s0 i : Nat) : ∀ (d v m : Nat) (σ : q_S) (q c : Nat → Nat) (many : Nat), v + d = 3 → d < m → i < many → RS σ0 σ q c many → BI (stR md la gp) s0 4860 q c many i v → ∃ σ' q' c' many', f_X10_tripTo_222 N k164 (nI k) x2 (bz md) x7 (nI i) (nI (q i)) (nI (q i / 243)) (nI (c i / 10)) m (nI many) (nI v) σ = k164 (nI many') (nI (i + 1)) σ' ∧ RS σ0 σ' q' c' many' ∧ BI (stR md la gp) s0 4860 q' c' many' i 3 ∧ many ≤ many' ∧ ∀ j, j < many → q' j = q j := by
  intro d
  induction d with
  | zero =>
    intro v m σ q c many h1 h2 h3 h4 h5
    obtain ⟨m, rfl⟩ : ∃ m', m = m' + 1 := ⟨m - 1, by omega⟩
    have e : v = 3 := by omega
    subst e
    exact ⟨σ, q, c, many, by rw [f_X10_tripTo_222, if_pos (show (3 : Int32) ≤ nI 3 by decide), nI_1], h4, h5, Nat.le_refl _, fun _ _ => rfl⟩
  | succ d ih =>
    intro v m σ q c many h1 h2 h3 h4 h5
    obtain ⟨m, rfl⟩ : ∃ m', m = m' + 1 := ⟨m - 1, by omega⟩
    have hv : v < 3 := by omega
    have hq : q i < 4860 := h5.2.1 i h3
    have hml : many ≤ 4860 := BI_len h5
    have hcb := (h5.2.2.2.2.2.2.1 i h3).1
    rw [r_222 _ _ _ _ _ _ _ _ _ _ _ _ _ hv, r_251 N hN k164 _ k hk md la hla gp hg (q i) hq v hv x2 (nI many) x7 (nI i) (nI (c i / 10)) σ (by rw [h4.1 87 (by decide) (by decide)]; exact h87) (by rw [h4.1 84 (by decide) (by decide)]; exact h84)]
    cases hst : stR md la gp (q i) v with
    | none =>
      show ∃ σ' q' c' many', f_X10_tripTo_222 N k164 (nI k) x2 (bz md) x7 (nI i) (nI (q i)) (nI (q i / 243)) (nI (c i / 10)) m (nI many) (nI (v + 1)) σ = _ ∧ _
      exact ih (v + 1) m σ q c many (by omega) (by omega) h3 h4 (BI_skip h5 h3 (fun s e => by rw [hst] at e; cases e))
    | some s =>
      have hsl := (stR_lt hv hst).1
      show ∃ σ' q' c' many', f_X10_tripTo_328 N k164 (fun x6 x12 σ => f_X10_tripTo_222 N k164 (nI k) x2 (bz md) x7 (nI i) (nI (q i)) (nI (q i / 243)) (nI (c i / 10)) m x6 x12 σ) (nI k) x2 (bz md) (nI many) x7 (nI i) (nI (q i)) (nI (q i / 243)) (nI (c i / 10)) (nI v) (nI s) 1 σ = _ ∧ _
      by_cases hvis : ∃ j, j < many ∧ q j = s
      · obtain ⟨j, hj, ej⟩ := hvis
        have hcj := (h5.2.2.2.2.2.2.1 j hj).1
        rw [r_328v N k164 _ _ _ _ _ _ _ _ _ _ v s (c j) hsl (by omega) σ (by rw [← ej]; exact (h4.2.1 j hj).2)]
        exact ih (v + 1) m σ q c many (by omega) (by omega) h3 h4 (BI_skip h5 h3 (fun s' e => by rw [hst] at e; exact ⟨j, hj, by rw [ej]; exact Option.some.inj e⟩))
      · have hnv : ∀ j, j < many → q j ≠ s := fun j hj e => hvis ⟨j, hj, e⟩
        have hroom : many < 4860 := BI_room h5 hsl hnv
        have h90 := h4.2.2 s hsl hnv
        rw [r_328n N k164 _ _ _ _ _ _ _ v (q i) s (c i) many hv hq hsl (by omega) hroom σ h90 (h4.2.1 i h3).2]
        obtain ⟨qq, hq1, hq2⟩ : ∃ qq : Nat → Nat, (∀ j, j < many → qq j = q j) ∧ qq many = s := ⟨fun j => if j = many then s else q j, fun j hj => if_neg (by omega), if_pos rfl⟩
        obtain ⟨cc, hc1, hc2⟩ : ∃ cc : Nat → Nat, (∀ j, j < many → cc j = c j) ∧ cc many = nx (c i) v := ⟨fun j => if j = many then nx (c i) v else c j, fun j hj => if_neg (by omega), if_pos rfl⟩
        have hB := BI_push h5 h3 hv hst hsl hnv qq cc hq1 hq2 hc1 hc2
        have hR : RS σ0 (q_w (q_w σ 90 s (nI (nx (c i) v))) 91 many (nI s)) qq cc (many + 1) := by
          refine ⟨fun p h90 h91 => by rw [s_wn _ _ _ _ h91, s_wn _ _ _ _ h90]; exact h4.1 p h90 h91, fun j hj => ?_, fun t ht hnt => ?_⟩
          · by_cases e : j = many
            · rw [e, hq2, hc2, s_w1, s_u1, s_wn _ _ _ _ (by decide), s_w1, s_u1]
              exact ⟨rfl, rfl⟩
            · rw [hq1 j (by omega), hc1 j (by omega), s_w1, s_un _ _ _ e, s_wn _ _ _ _ (show (91 : Nat) ≠ 90 by decide), s_wn _ _ _ _ (show (90 : Nat) ≠ 91 by decide), s_w1, s_un _ _ _ (hnv j (by omega))]
              exact h4.2.1 j (by omega)
          · have ht2 : t ≠ s := fun e => hnt many (by omega) (by rw [hq2, e])
            rw [s_wn _ _ _ _ (by decide), s_w1, s_un _ _ _ ht2]
            exact h4.2.2 t ht (fun j hj e => hnt j (by omega) (by rw [hq1 j hj]; exact e))
        obtain ⟨σ', q', c', many', e1, e2, e3, e4, e5⟩ := ih (v + 1) m _ qq cc (many + 1) (by omega) (by omega) (by omega) hR hB
        rw [hq1 i h3, hc1 i h3] at e1
        exact ⟨σ', q', c', many', e1, e2, e3, by omega, fun j hj => by rw [e5 j (by omega), hq1 j hj]⟩
theorem r_164 (N : Nat) (hN : 5 < N) (k : Nat) (hk : k < 6) (md : Bool) (la : Nat) (hla : la ≤ 5) (gp : Nat) (hg : gp < 20) (goal : Nat) (hgo : goal < 20) (σ0 : q_S) (h87 : σ0.1 87 k = nI la) (h84 : σ0.1 84 5 = nI gp) (s0 : Nat) : ∀ (d i m : Nat) (σ : q_S) (q c : Nat → Nat) (many : Nat), i + d = 4861 → d < m → i ≤ many → RS σ0 σ q c many → BI (stR md la gp) s0 4860 q c many i 0 → (∀ j, j < i → ¬ q j / 243 = goal) → ∃ r σ', f_X10_tripTo_164 N (nI k) (nI goal) (bz md) (-1) m (nI many) (nI i) σ = some (r, σ') ∧ (∀ p, p ≠ 90 → p ≠ 91 → σ'.1 p = σ0.1 p) ∧ ((∃ cc, r = nI cc ∧ cc < 100000 ∧ Best (stR md la gp) s0 (fun s => s / 243 = goal) cc) ∨ (r = -1 ∧ NoWay (stR md la gp) s0 (fun s => s / 243 = goal))) := by
  intro d
  induction d with
  | zero =>
    intro i m σ q c many h1 h2 h3 h4 h5 h6
    have := BI_len h5
    omega
  | succ d ih =>
    intro i m σ q c many h1 h2 h3 h4 h5 h6
    obtain ⟨m, rfl⟩ : ∃ m', m = m' + 1 := ⟨m - 1, by omega⟩
    have hml : many ≤ 4860 := BI_len h5
    by_cases him : many ≤ i
    · refine ⟨-1, σ, ?_, h4.1, Or.inr ⟨rfl, BI_none h5 him (fun j hj => h6 j (by omega))⟩⟩
      rw [f_X10_tripTo_164, if_pos (nI_le him (by omega))]
    · have hi : i < many := by omega
      have hq : q i < 4860 := h5.2.1 i hi
      have hcb := (h5.2.2.2.2.2.2.1 i hi).1
      obtain ⟨r1, r2⟩ := h4.2.1 i hi
      have ed : nI (q i) / 243 = nI (q i / 243) := pk_div (d := 243) (by omega) (by decide) (by decide)
      have ec : nI (c i) / 10 = nI (c i / 10) := pk_div (d := 10) (by omega) (by decide) (by decide)
      rw [f_X10_tripTo_164, if_neg (nI_ge hi (by omega)), if_pos (nI_in (show i < 4860 by omega) (by decide)), nI_clamp (show i < _ by omega), r1, if_pos (nI_in hq (by decide)), nI_clamp (show q i < _ by omega), r2, ed, ec, if_neg (show ¬ (0 : Int32) ≤ -1 by decide)]
      by_cases hgl : q i / 243 = goal
      · rw [if_pos (show nI (q i / 243) = nI goal by rw [hgl])]
        exact ⟨nI (c i), σ, rfl, h4.1, Or.inl ⟨c i, rfl, by omega, BI_out (G := fun s => s / 243 = goal) h5 hi h6 hgl⟩⟩
      · rw [if_neg (fun e => hgl ((nI_eq (by omega) (by omega)).mp e))]
        obtain ⟨σ', q', c', many', e1, e2, e3, e4, e5⟩ := r_ways N hN (fun x6 x8 σ => f_X10_tripTo_164 N (nI k) (nI goal) (bz md) (-1) m x6 x8 σ) k hk md la hla gp hg (nI goal) (-1) σ0 h87 h84 s0 i 3 0 N σ q c many (by omega) (by omega) hi h4 h5
        rw [nI_0] at e1
        rw [e1]
        refine ih (i + 1) m σ' q' c' many' (by omega) (by omega) (by omega) e2 (BI_next e3 (by omega)) (fun j hj => ?_)
        rw [e5 j (by omega)]
        by_cases hji : j = i
        · rw [hji]
          exact hgl
        · exact h6 j (by omega)
