/-! trip: the class's search -/
def btI (r : Nat) : Int32 := (1 : Int32) <<< nI r
theorem b_ne : ∀ r : Fin 32, ¬ btI r.val = 0 := by decide +kernel
theorem b_dis : ∀ r s : Fin 32, r.val = s.val ∨ btI r.val &&& btI s.val = 0 := by decide +kernel
theorem b_or1 (w b : Int32) : (w ||| b) &&& b = b := by
  apply Int32.toBitVec_inj.mp
  show (w.toBitVec ||| b.toBitVec) &&& b.toBitVec = b.toBitVec
  apply BitVec.eq_of_getLsbD_eq
  intro i hi
  simp only [BitVec.getLsbD_or, BitVec.getLsbD_and]
  cases w.toBitVec.getLsbD i <;> cases b.toBitVec.getLsbD i <;> rfl
theorem b_or2 (w a b : Int32) (h : a &&& b = 0) : (w ||| a) &&& b = w &&& b := by
  have h2 := congrArg Int32.toBitVec h
  apply Int32.toBitVec_inj.mp
  show (w.toBitVec ||| a.toBitVec) &&& b.toBitVec = w.toBitVec &&& b.toBitVec
  have h3 : a.toBitVec &&& b.toBitVec = 0#32 := h2
  apply BitVec.eq_of_getLsbD_eq
  intro i hi
  have h4 := congrArg (fun z => BitVec.getLsbD z i) h3
  simp only [BitVec.getLsbD_and, BitVec.getLsbD_zero] at h4
  simp only [BitVec.getLsbD_or, BitVec.getLsbD_and]
  revert h4
  cases w.toBitVec.getLsbD i <;> cases a.toBitVec.getLsbD i <;> cases b.toBitVec.getLsbD i <;> decide
theorem b_at {p : Nat} (hp : p < 4860) : nI p >>> (5 &&& 31) = nI (p / 32) ∧ (1 : Int32) <<< ((nI p &&& 31) &&& 31) = btI (p % 32) := by
  constructor
  · exact pk_shrN (by omega) _ 5 (by decide)
  · rw [pk_andN (by omega) (m := 31) 5 (by decide), pk_andN (by omega) (m := 31) 5 (by decide)]
    unfold btI
    rw [Nat.mod_mod]
/-- a queue's entry -/
def en (p c : Nat) : Nat := p + 8192 * (c % 10) + 32768 * (c / 10)
theorem n_or (a b : Nat) : nI a ||| nI b = nI (a ||| b) := by
  apply Int32.toBitVec_inj.mp
  show BitVec.ofNat 32 a ||| BitVec.ofNat 32 b = BitVec.ofNat 32 (a ||| b)
  apply BitVec.eq_of_toNat_eq
  simp [Nat.or_mod_two_pow]
theorem e_make {p f g : Nat} (hp : p < 8192) (hf : f < 4) (hg : g < 32768) : (nI p ||| (nI f <<< (13 &&& 31))) ||| (nI g <<< (15 &&& 31)) = nI (p + 8192 * f + 32768 * g) := by
  rw [pk_shlN (13 &&& 31) 13 (by decide) (by omega), pk_shlN (15 &&& 31) 15 (by decide) (by omega), n_or, n_or]
  congr 1
  have e1 : p ||| f * 2 ^ 13 = 2 ^ 13 * f + p := by
    rw [Nat.or_comm, Nat.mul_comm, ← Nat.two_pow_add_eq_or_of_lt (i := 13) (by omega) f]
  rw [e1]
  have e2 : (2 ^ 13 * f + p) ||| g * 2 ^ 15 = 2 ^ 15 * g + (2 ^ 13 * f + p) := by
    rw [Nat.or_comm, Nat.mul_comm g, ← Nat.two_pow_add_eq_or_of_lt (i := 15) (by omega) g]
  rw [e2]
  omega
theorem e_take {p c : Nat} (hp : p < 8192) (hc : c < 100000) (h3 : c % 10 < 3) : nI (en p c) &&& 8191 = nI p ∧ nI (en p c) >>> (15 &&& 31) = nI (c / 10) ∧ (nI (en p c) >>> (13 &&& 31)) &&& 3 = nI (c % 10) := by
  have hb : en p c < 2 ^ 31 := by
    unfold en
    omega
  refine ⟨?_, ?_, ?_⟩
  · rw [pk_andN (by omega) (m := 8191) 13 (by decide)]
    congr 1
    unfold en
    omega
  · rw [pk_shrN hb (15 &&& 31) 15 (by decide)]
    congr 1
    unfold en
    omega
  · rw [pk_shrN hb (13 &&& 31) 13 (by decide), pk_andN (by omega) (m := 3) 2 (by decide)]
    congr 1
    unfold en
    omega
theorem nx_10 {c w : Nat} (hw : w < 3) : nx c w / 10 = c / 10 + 1 ∧ nx c w % 10 = if c < 10 then w else c % 10 := by
  unfold nx
  split <;> omega
/-- the class's queue and marks -/
def CS (σ0 σ : q_S) (q c : Nat → Nat) (many : Nat) : Prop := (∀ p, p ≠ 74 → p ≠ 75 → p ≠ 76 → σ.1 p = σ0.1 p) ∧ σ.1 74 2 = nI many ∧ σ.1 74 3 = -6 ∧ σ.1 74 4 = -6 ∧ (∀ j, j < many → σ.1 75 j = nI (en (q j) (c j))) ∧ (∀ s, s < 4860 → ((σ.1 76 (s / 32) &&& btI (s % 32)) = 0 ↔ ∀ j, j < many → q j ≠ s))
theorem c_offV {p : Nat} (hp : p < 4860) (f g : Int32) (σ : q_S) (hv : ¬ (σ.1 76 (p / 32) &&& btI (p % 32)) = 0) : f_X7_offer (nI p) f g σ = some σ := by
  obtain ⟨b1, b2⟩ := b_at hp
  unfold f_X7_offer
  have hin : f_X9_isWithin (nI p) 0 4859 = 1 := by
    rw [s_wI, if_pos (show (0 : Int32) ≤ nI p ∧ nI p ≤ 4859 from ⟨nI_pos' (by omega), nI_le (b := 4859) (by omega) (by decide)⟩)]
  rw [hin, if_neg (show ¬ (1 : Int32) = 0 by decide), b1, b2, if_pos (nI_in (show p / 32 < 152 by omega) (by decide)), nI_clamp (show p / 32 < _ by omega), if_neg hv]
  split <;> rfl
theorem c_offN {p many f g : Nat} (hp : p < 4860) (hf : f < 4) (hg : g < 32768) (hm : many < 4860) (σ : q_S) (hmany : σ.1 74 2 = nI many) (hv : (σ.1 76 (p / 32) &&& btI (p % 32)) = 0) : f_X7_offer (nI p) (nI f) (nI g) σ = some (q_w (q_w (q_w σ 76 (p / 32) (σ.1 76 (p / 32) ||| btI (p % 32))) 75 many (nI (p + 8192 * f + 32768 * g))) 74 2 (nI (many + 1))) := by
  obtain ⟨b1, b2⟩ := b_at hp
  unfold f_X7_offer
  have hin : f_X9_isWithin (nI p) 0 4859 = 1 := by
    rw [s_wI, if_pos (show (0 : Int32) ≤ nI p ∧ nI p ≤ 4859 from ⟨nI_pos' (by omega), nI_le (b := 4859) (by omega) (by decide)⟩)]
  rw [hin, if_neg (show ¬ (1 : Int32) = 0 by decide), b1, b2, if_pos (nI_in (show p / 32 < 152 by omega) (by decide)), nI_clamp (show p / 32 < _ by omega), if_pos hv, e_make (by omega) hf hg]
  simp only [s_wn _ _ _ _ (show (74 : Nat) ≠ 76 by decide), s_wn _ _ _ _ (show (74 : Nat) ≠ 75 by decide), hmany]
  rw [if_neg (show ¬ (4860 : Int32) ≤ nI many from nI_ge (b := 4860) hm (by decide)), if_pos (nI_in hm (by decide)), nI_clamp (show many < _ by omega), nI_1]
theorem i_rows : ∀ la : Fin 6, q_s1 la.val = nI (3 ^ la.val) := by decide +kernel
theorem md_div {a b r : Nat} (h : r < b) : (a * b + r) / b = a := by
  rw [Nat.mul_comm, Nat.mul_add_div (by omega), Nat.div_eq_of_lt h, Nat.add_zero]
theorem c_try (N : Nat) (hN : 5 < N) (la : Nat) (hla : la ≤ 5) (gp : Nat) (hg : gp < 20) (goal : Nat) (hgo : goal < 20) (p : Nat) (hp : p < 20 * 3 ^ la) (c : Nat) (hc : c < 100000) (hc3 : c % 10 < 3) (v : Nat) (hv : v < 3) (σ : q_S) : f_X7_tryWay N (nI (en p c)) (nI v) (nI la) (nI goal) (nI gp) σ = (stC la gp p v).elim (some σ) (fun p' => if p' / 3 ^ la = goal then some (q_w (q_w σ 74 3 (nI (nx c v / 10))) 74 4 (nI (nx c v % 10))) else f_X7_offer (nI p') (nI (nx c v % 10)) (nI (nx c v / 10)) σ) := by
  obtain ⟨w1, w2⟩ := pw_le hla
  have er : q_s1 la = nI (3 ^ la) := i_rows ⟨la, by omega⟩
  have hp2 : p < 4860 := by omega
  obtain ⟨t1, t2, t3⟩ := e_take (p := p) (by omega) hc hc3
  have hcell : p / 3 ^ la < 20 := Nat.div_lt_of_lt_mul (by rw [Nat.mul_comm]; exact hp)
  have hlast : p % 3 ^ la < 3 ^ la := Nat.mod_lt _ w2
  have hlast2 : (p % 3 ^ la * 3 + v) % 3 ^ la < 3 ^ la := Nat.mod_lt _ w2
  have d1 : nI p / nI (3 ^ la) = nI (p / 3 ^ la) := pk_div (by omega) w2 (by omega)
  have d2 : q_rem (nI p) (nI (3 ^ la)) = nI (p % 3 ^ la) := pk_rem (by omega) w2 (by omega)
  have d3 : q_rem (nI (p % 3 ^ la) * 3 + nI v) (nI (3 ^ la)) = nI ((p % 3 ^ la * 3 + v) % 3 ^ la) := by
    rw [show nI (p % 3 ^ la) * 3 = nI (p % 3 ^ la * 3) from pk_mul _ 3, nI_add]
    exact pk_rem (by omega) w2 (by omega)
  obtain ⟨_, c1, c3⟩ := i_cell ⟨p / 3 ^ la, hcell⟩ ⟨v, hv⟩
  obtain ⟨n1, n2⟩ := nx_10 (c := c) hv
  unfold f_X7_tryWay
  rw [if_pos (nI_in (show la < 6 by omega) (by decide)), if_pos (nI_in hv (by decide)), nI_clamp (show la < _ by omega), nI_clamp (show v < _ by omega), er, if_pos (nI_ne0 w2 (by omega)), t1, d1, d2, d3, t2, c1]
  have h74 : ∀ (hval : 1 ≤ tg (p / 3 ^ la) v ∧ tg (p / 3 ^ la) v ≤ 20), f_X7_tryWay_74 N (nI (en p c)) (nI v) (nI goal) (nI (3 ^ la)) (nI (c / 10)) (nI (tg (p / 3 ^ la) v - 1)) (nI ((p % 3 ^ la * 3 + v) % 3 ^ la)) σ = (if ((tg (p / 3 ^ la) v - 1) * 3 ^ la + (p % 3 ^ la * 3 + v) % 3 ^ la) / 3 ^ la = goal then some (q_w (q_w σ 74 3 (nI (nx c v / 10))) 74 4 (nI (nx c v % 10))) else f_X7_offer (nI ((tg (p / 3 ^ la) v - 1) * 3 ^ la + (p % 3 ^ la * 3 + v) % 3 ^ la)) (nI (nx c v % 10)) (nI (nx c v / 10)) σ) := by
    intro hval
    have h89 : f_X7_tryWay_74 N (nI (en p c)) (nI v) (nI goal) (nI (3 ^ la)) (nI (c / 10)) (nI (tg (p / 3 ^ la) v - 1)) (nI ((p % 3 ^ la * 3 + v) % 3 ^ la)) σ = f_X7_tryWay_89 N (nI goal) (nI (3 ^ la)) (nI (c / 10)) (nI (tg (p / 3 ^ la) v - 1)) (nI ((p % 3 ^ la * 3 + v) % 3 ^ la)) (nI (nx c v % 10)) σ := by
      unfold f_X7_tryWay_74
      rw [t3, n2]
      by_cases hc10 : c < 10
      · rw [if_pos (show nI (c / 10) = 0 by rw [show c / 10 = 0 by omega]; rfl), if_pos hc10]
      · rw [if_neg (nI_ne0 (by omega) (by omega)), if_neg hc10]
    rw [h89]
    unfold f_X7_tryWay_89
    rw [pk_mul, nI_add, nI_1, ← n1, md_div hlast2]
    by_cases hgl : tg (p / 3 ^ la) v - 1 = goal
    · rw [if_pos (by rw [hgl]), if_pos hgl]
    · rw [if_neg (fun e => hgl ((nI_eq (by omega) (by omega)).mp e)), if_neg hgl]
      cases f_X7_offer (nI ((tg (p / 3 ^ la) v - 1) * 3 ^ la + (p % 3 ^ la * 3 + v) % 3 ^ la)) (nI (nx c v % 10)) (nI (nx c v / 10)) σ <;> rfl
  unfold stC
  by_cases hval : 1 ≤ tg (p / 3 ^ la) v ∧ tg (p / 3 ^ la) v ≤ 20
  · rw [if_pos hval, if_neg (show ¬ (1 : Int32) = 0 by decide), c3 hval]
    simp only [h74 hval]
    by_cases hv0 : v = 0
    · rw [if_pos (show nI v = 0 by rw [hv0]; rfl), if_pos (show (1 ≤ tg (p / 3 ^ la) v ∧ tg (p / 3 ^ la) v ≤ 20) ∧ mv true la gp v ((p % 3 ^ la * 3 + v) % 3 ^ la) from ⟨hval, Or.inl hv0⟩)]
      rfl
    · have hl := i_lead N la hla σ la 0 N ((p % 3 ^ la * 3 + v) % 3 ^ la) 0 (by omega) (by omega) (by omega)
      rw [nI_0, Int32.zero_add] at hl
      rw [if_neg (nI_ne0 (by omega) (by omega)), f_X7_lead, hl]
      simp only [Option.bind_some]
      have ha := (i_abs2 hla ((p % 3 ^ la * 3 + v) % 3 ^ la) hg).1
      by_cases hm : (-(gp : Int) ≤ ldI la ((p % 3 ^ la * 3 + v) % 3 ^ la) ∧ ldI la ((p % 3 ^ la * 3 + v) % 3 ^ la) ≤ gp)
      · rw [if_pos (ha.mpr hm), if_pos (show (1 ≤ tg (p / 3 ^ la) v ∧ tg (p / 3 ^ la) v ≤ 20) ∧ mv true la gp v ((p % 3 ^ la * 3 + v) % 3 ^ la) from ⟨hval, Or.inr (Or.inr hm)⟩)]
        rfl
      · rw [if_neg (fun q => hm (ha.mp q)), if_neg (fun q => by
          rcases q.2 with q | q | q
          · exact hv0 q
          · cases q
          · exact hm q)]
        rfl
  · rw [if_neg hval, if_pos rfl, if_neg (fun q => hval q.1)]
    rfl
