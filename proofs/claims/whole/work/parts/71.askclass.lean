/-! ask: the class's side -/
theorem a_fit2 (N : Nat) (x : Int32) {σ τ : q_S} (h : ∀ p, 14 ≤ p → p ≤ 16 → τ.1 p = σ.1 p) : ∀ m j, f_X4_isFit_2 N x 14 τ m j = f_X4_isFit_2 N x 14 σ m j := by
  intro m
  induction m with
  | zero => intro j; rfl
  | succ m ih =>
    intro j
    rw [f_X4_isFit_2, f_X4_isFit_2, h 14 (by decide) (by decide), h (14 + 1) (by decide) (by decide), h (14 + 2) (by decide) (by decide)]
    simp only [ih]
theorem a_fitR (N : Nat) (x : Int32) {σ τ : q_S} (h1 : τ.1 84 6 = σ.1 84 6) (h2 : τ.1 88 = σ.1 88) : ∀ m b j, f_X10_isFit_20 N x τ m b j = f_X10_isFit_20 N x σ m b j := by
  intro m
  induction m with
  | zero => intro b j; rfl
  | succ m ih =>
    intro b j
    rw [f_X10_isFit_20, f_X10_isFit_20, h1, h2]
    simp only [ih]
theorem nI_m6 {j : Nat} (hj : j < 2 ^ 31) : ¬ nI j = (-6 : Int32) := fun e => by
  have h := congrArg Int32.toInt e
  rw [nI_toInt hj, show (-6 : Int32).toInt = -6 from by decide] at h
  omega
/-- F tells which rounds fit -/
def aF (n : Nat) (F : Nat → Bool) (σ : q_S) : Prop := ∀ k, k < 1400 → f_X4_isFit (n + 100) (nI k) 14 σ = some (bz (F k)) ∧ f_X10_isFit (n + 100) (nI (fcd k)) σ = some (bz (F k))
theorem aF_ex (n : Nat) {σ : q_S} (h : Rel σ) : ∃ F, aF n F σ := by
  obtain ⟨q, hq⟩ := Rel_SG h
  have hx : ∀ k : Nat, ∃ b : Bool, k < 1400 → f_X4_isFit (n + 100) (nI k) 14 σ = some (bz b) ∧ f_X10_isFit (n + 100) (nI (fcd k)) σ = some (bz b) := by
    intro k
    by_cases hk : k < 1400
    · obtain ⟨b, hb⟩ := s_fitk hq n k hk
      exact ⟨b, fun _ => hb⟩
    · exact ⟨true, fun h => absurd h hk⟩
  obtain ⟨F, hF⟩ := Classical.axiomOfChoice hx
  exact ⟨F, hF⟩
theorem aF_congr {n : Nat} {F : Nat → Bool} {σ τ : q_S} (h : ∀ p, 14 ≤ p → p ≤ 16 → τ.1 p = σ.1 p) (h1 : τ.1 84 6 = σ.1 84 6) (h2 : τ.1 88 = σ.1 88) (hF : aF n F σ) : aF n F τ := by
  intro k hk
  obtain ⟨e1, e2⟩ := hF k hk
  constructor
  · rw [← e1]
    exact a_fit2 _ _ h _ _
  · rw [← e2]
    unfold f_X10_isFit
    rw [a_fitR _ _ h1 h2, a_fitR _ _ h1 h2]
/-- but for the place p all is as it was -/
def aO (p : Nat) (σ τ : q_S) : Prop := ∀ q, q ≠ p → τ.1 q = σ.1 q
theorem a_f27 (N : Nat) (k10 : Int32 → q_S → Option q_S) (p1 k : Nat) (hk : k < 1400) (G : Nat → Nat → Nat) (σ0 : q_S) : ∀ (d j m : Nat) (σ : q_S), j + d = 20 → d < m → aO 81 σ0 σ → (∀ x c, x < 20 → c < 20 → σ.1 81 (x * 20 + c) = nI (G x c + if x < j ∧ aC k x = c then 1 else 0)) → ∃ σ', f_X4_fillCrowds_27 N k10 p1 (nI k) m (nI j) σ = k10 (nI (k + 1)) σ' ∧ aO 81 σ0 σ' ∧ ∀ x c, x < 20 → c < 20 → σ'.1 81 (x * 20 + c) = nI (G x c + if aC k x = c then 1 else 0) := by
  intro d
  induction d with
  | zero =>
    intro j m σ hj hm ho hs
    obtain ⟨m, rfl⟩ : ∃ m', m = m' + 1 := ⟨m - 1, by omega⟩
    have e : j = 20 := by omega
    subst e
    refine ⟨σ, ?_, ho, fun x c hx hc => ?_⟩
    · rw [f_X4_fillCrowds_27, if_pos (show (20 : Int32) ≤ nI 20 by decide), nI_1]
    · rw [hs x c hx hc]
      simp only [hx, true_and]
  | succ d ih =>
    intro j m σ hj hm ho hs
    obtain ⟨m, rfl⟩ : ∃ m', m = m' + 1 := ⟨m - 1, by omega⟩
    obtain ⟨c1, c2, c3⟩ := a_cell k j hk (by omega)
    have hj2 : j < 20 := by omega
    have hix : j * 20 + aC k j < 400 := by omega
    have ea : nI j * 20 + nI (aC k j) = nI (j * 20 + aC k j) := by
      rw [show nI j * 20 = nI (j * 20) from pk_mul j 20, nI_add]
    rw [f_X4_fillCrowds_27, if_neg (show ¬ (20 : Int32) ≤ nI j from nI_ge (b := 20) hj2 (by decide)), c1]
    simp only [Option.bind_some]
    rw [ea, if_pos (nI_in hix (by decide)), nI_clamp (by omega), nI_1]
    refine ih (j + 1) m _ (by omega) (by omega) (fun q hq => by rw [s_wn _ _ _ _ hq]; exact ho q hq) (fun x c hx hc => ?_)
    rw [s_w1]
    by_cases hxc : x * 20 + c = j * 20 + aC k j
    · have hx2 : x = j := by omega
      have hc2 : c = aC k j := by omega
      rw [hxc, s_u1]
      subst hx2
      subst hc2
      rw [hs x _ hx hc, nI_1, if_neg (by omega), if_pos ⟨by omega, rfl⟩]
    · rw [s_un _ _ _ hxc, hs x c hx hc]
      congr 2
      by_cases hx3 : x < j ∧ aC k x = c
      · rw [if_pos hx3, if_pos ⟨by omega, hx3.2⟩]
      · rw [if_neg hx3, if_neg]
        intro hh
        by_cases hxj : x = j
        · subst hxj
          exact hxc (by rw [hh.2])
        · exact hx3 ⟨by omega, hh.2⟩
theorem a_f10 (n : Nat) (F : Nat → Bool) (σ0 : q_S) (hF : aF n F σ0) : ∀ (d k m : Nat) (σ : q_S), k + d = 1400 → d < m → aO 81 σ0 σ → (∀ x c, x < 20 → c < 20 → σ.1 81 (x * 20 + c) = nI (aK (aL F k) x c)) → ∃ σ', f_X4_fillCrowds_10 (n + 100) 14 m (nI k) σ = some σ' ∧ aO 81 σ0 σ' ∧ ∀ x c, x < 20 → c < 20 → σ'.1 81 (x * 20 + c) = nI (aK (aL F 1400) x c) := by
  intro d
  induction d with
  | zero =>
    intro k m σ hj hm ho hs
    obtain ⟨m, rfl⟩ : ∃ m', m = m' + 1 := ⟨m - 1, by omega⟩
    have e : k = 1400 := by omega
    subst e
    refine ⟨σ, ?_, ho, hs⟩
    rw [f_X4_fillCrowds_10, if_pos (show (1400 : Int32) ≤ nI 1400 by decide)]
  | succ d ih =>
    intro k m σ hj hm ho hs
    obtain ⟨m, rfl⟩ : ∃ m', m = m' + 1 := ⟨m - 1, by omega⟩
    have hk : k < 1400 := by omega
    have hF2 : aF n F σ := aF_congr (fun p a b => ho p (by omega)) (by rw [ho 84 (by decide)]) (ho 88 (by decide)) hF
    rw [f_X4_fillCrowds_10, if_neg (show ¬ (1400 : Int32) ≤ nI k from nI_ge (b := 1400) hk (by decide)), (hF2 k hk).1]
    simp only [Option.bind_some]
    by_cases hFk : F k = true
    · rw [hFk, if_neg (show ¬ bz true = 0 by decide)]
      obtain ⟨σ2, e2, o2, s2⟩ := a_f27 (n + 100) (fun x2 σ => f_X4_fillCrowds_10 (n + 100) 14 m x2 σ) 14 k hk (aK (aL F k)) σ0 20 0 (n + 100) σ (by omega) (by omega) ho (fun x c hx hc => by rw [hs x c hx hc, if_neg (by omega)]; rfl)
      rw [show f_X4_fillCrowds_27 (n + 100) (fun x2 σ => f_X4_fillCrowds_10 (n + 100) 14 m x2 σ) 14 (nI k) (n + 100) 0 σ = f_X4_fillCrowds_10 (n + 100) 14 m (nI (k + 1)) σ2 from e2]
      refine ih (k + 1) m σ2 (by omega) (by omega) o2 (fun x c hx hc => ?_)
      rw [s2 x c hx hc, aL, if_pos hFk, aK_app]
    · have hFk2 : F k = false := by
        cases hh : F k
        · rfl
        · exact absurd hh hFk
      rw [hFk2, if_pos (show bz false = 0 by decide), nI_1]
      refine ih (k + 1) m σ (by omega) (by omega) ho (fun x c hx hc => ?_)
      rw [hs x c hx hc, aL, if_neg hFk]
theorem a_great (N : Nat) (σ : q_S) (L : List Nat) (hL : L.length ≤ 1400) (x : Nat) (hx : x < 20) (hs : ∀ x c, x < 20 → c < 20 → σ.1 81 (x * 20 + c) = nI (aK L x c)) : ∀ (d c m : Nat), c + d = 20 → d < m → f_X4_greatestCrowd_4 N (nI x) σ m (nI (aM (aK L x) c)) (nI c) = some (nI (aW L x)) := by
  intro d
  induction d with
  | zero =>
    intro c m hc hm
    obtain ⟨m, rfl⟩ : ∃ m', m = m' + 1 := ⟨m - 1, by omega⟩
    have e : c = 20 := by omega
    subst e
    rw [f_X4_greatestCrowd_4, if_pos (show (20 : Int32) ≤ nI 20 by decide)]
    rfl
  | succ d ih =>
    intro c m hc hm
    obtain ⟨m, rfl⟩ : ∃ m', m = m' + 1 := ⟨m - 1, by omega⟩
    have hc2 : c < 20 := by omega
    have ea : nI x * 20 + nI c = nI (x * 20 + c) := by
      rw [show nI x * 20 = nI (x * 20) from pk_mul x 20, nI_add]
    have h1 := aK_len L x c
    have h2 : aM (aK L x) c ≤ 1400 := Nat.le_trans (aM_le _ _ _ (fun c _ => aK_len L x c)) hL
    rw [f_X4_greatestCrowd_4, if_neg (show ¬ (20 : Int32) ≤ nI c from nI_ge (b := 20) hc2 (by decide)), ea, if_pos (nI_in (show x * 20 + c < 400 by omega) (by decide)), nI_clamp (by omega), nI_1, hs x c hx hc2]
    have hm2 : f_J9_max_7cf53 (nI (aM (aK L x) c)) (nI (aK L x c)) = nI (aM (aK L x) (c + 1)) := by
      unfold f_J9_max_7cf53
      rw [aM]
      by_cases h : aM (aK L x) c < aK L x c
      · rw [if_pos h, if_pos ((nI_ltI (by omega) (by omega)).mpr h)]
      · rw [if_neg h, if_neg (fun q => h ((nI_ltI (by omega) (by omega)).mp q))]
    rw [hm2]
    exact ih (c + 1) m (by omega) (by omega)
/-- what the class keeps, and the reference: of the beats below x -/
def aX (W : Nat → Nat) (x : Nat) : Int32 := if x = 0 then -6 else nI (aB W x).1
def aY (W : Nat → Nat) (x : Nat) : Int32 := if x = 0 then -6 else nI (aB W x).2
theorem a_seek (n : Nat) (σ0 : q_S) (L : List Nat) (hL : L.length ≤ 1400) (hp : ∀ t, t < 61 → 0 < aW L t) : ∀ (d x m : Nat) (σ : q_S), x + d = 20 → d < m → aO 80 σ0 σ → (∀ x c, x < 20 → c < 20 → σ.1 81 (x * 20 + c) = nI (aK L x c)) → σ.1 80 1 = aX (aW L) x → σ.1 80 2 = aY (aW L) x → ∃ σ', f_X4_seekQuestion_19 (n + 100) m (nI x) σ = some σ' ∧ aO 80 σ0 σ' ∧ σ'.1 80 1 = aX (aW L) 20 ∧ σ'.1 80 2 = aY (aW L) 20 := by
  intro d
  induction d with
  | zero =>
    intro x m σ hx hm ho hs h1 h2
    obtain ⟨m, rfl⟩ : ∃ m', m = m' + 1 := ⟨m - 1, by omega⟩
    have e : x = 20 := by omega
    subst e
    exact ⟨σ, by rw [f_X4_seekQuestion_19, if_pos (show (20 : Int32) ≤ nI 20 by decide)], ho, h1, h2⟩
  | succ d ih =>
    intro x m σ hx hm ho hs h1 h2
    obtain ⟨m, rfl⟩ : ∃ m', m = m' + 1 := ⟨m - 1, by omega⟩
    have hx2 : x < 20 := by omega
    have hg : f_X4_greatestCrowd (n + 100) (nI x) σ = some (nI (aW L x)) := a_great (n + 100) σ L hL x hx2 hs 20 0 (n + 100) (by omega) (by omega)
    have hW : ∀ t, aW L t ≤ 1400 := fun t => Nat.le_trans (aW_len L t) hL
    have hWx := hW x
    have hpx := hp x (by omega)
    rw [f_X4_seekQuestion_19, if_neg (show ¬ (20 : Int32) ≤ nI x from nI_ge (b := 20) hx2 (by decide)), hg]
    simp only [Option.bind_some]
    rw [if_neg (nI_nle hpx (by omega)), nI_1, h2]
    have hst : aW L x < (aB (aW L) x).2 → ∃ σ', f_X4_seekQuestion_19 (n + 100) m (nI (x + 1)) (q_w (q_w σ 80 1 (nI x)) 80 2 (nI (aW L x))) = some σ' ∧ aO 80 σ0 σ' ∧ σ'.1 80 1 = aX (aW L) 20 ∧ σ'.1 80 2 = aY (aW L) 20 := fun hlt =>
      ih (x + 1) m (q_w (q_w σ 80 1 (nI x)) 80 2 (nI (aW L x))) (by omega) (by omega) (fun q hq => by rw [s_wn _ _ _ _ hq, s_wn _ _ _ _ hq]; exact ho q hq) (fun x c hx hc => by rw [s_wn _ _ _ _ (by decide), s_wn _ _ _ _ (by decide)]; exact hs x c hx hc) (by rw [s_w1, s_un _ _ _ (by decide), s_w1, s_u1, aX, if_neg (by omega), aB, if_pos hlt]) (by rw [s_w1, s_u1, aY, if_neg (by omega), aB, if_pos hlt])
    have hkp : ¬ x = 0 → ¬ aW L x < (aB (aW L) x).2 → ∃ σ', f_X4_seekQuestion_19 (n + 100) m (nI (x + 1)) σ = some σ' ∧ aO 80 σ0 σ' ∧ σ'.1 80 1 = aX (aW L) 20 ∧ σ'.1 80 2 = aY (aW L) 20 := fun h0 hlt =>
      ih (x + 1) m σ (by omega) (by omega) ho hs (by rw [h1, aX, if_neg h0, aX, if_neg (by omega), aB, if_neg hlt]) (by rw [h2, aY, if_neg h0, aY, if_neg (by omega), aB, if_neg hlt])
    by_cases h0 : x = 0
    · subst h0
      rw [show aY (aW L) 0 = -6 from rfl, if_pos rfl]
      exact hst (show aW L 0 < 1000000 by omega)
    · have hb := aB_bd (aW L) hW x (by omega)
      rw [show aY (aW L) x = nI (aB (aW L) x).2 from if_neg h0, if_neg (nI_m6 (by omega))]
      by_cases hlt : aW L x < (aB (aW L) x).2
      · rw [if_neg (nI_ge hlt (by omega))]
        exact hst hlt
      · rw [if_pos (nI_le (by omega) (by omega))]
        exact hkp h0 hlt
theorem a_seek0 (n : Nat) (σ0 : q_S) (hs : ∀ x c, x < 20 → c < 20 → σ0.1 81 (x * 20 + c) = nI (aK [] x c)) : ∀ (d x m : Nat), x + d = 20 → d < m → f_X4_seekQuestion_19 (n + 100) m (nI x) σ0 = some σ0 := by
  intro d
  induction d with
  | zero =>
    intro x m hx hm
    obtain ⟨m, rfl⟩ : ∃ m', m = m' + 1 := ⟨m - 1, by omega⟩
    have e : x = 20 := by omega
    subst e
    rw [f_X4_seekQuestion_19, if_pos (show (20 : Int32) ≤ nI 20 by decide)]
  | succ d ih =>
    intro x m hx hm
    obtain ⟨m, rfl⟩ : ∃ m', m = m' + 1 := ⟨m - 1, by omega⟩
    have hx2 : x < 20 := by omega
    have hg : f_X4_greatestCrowd (n + 100) (nI x) σ0 = some (nI (aW [] x)) := a_great (n + 100) σ0 [] (Nat.zero_le _) x hx2 hs 20 0 (n + 100) (by omega) (by omega)
    rw [f_X4_seekQuestion_19, if_neg (show ¬ (20 : Int32) ≤ nI x from nI_ge (b := 20) hx2 (by decide)), hg, aW_nil]
    simp only [Option.bind_some]
    rw [if_pos (show nI 0 ≤ 0 by decide), nI_1]
    exact ih (x + 1) m (by omega) (by omega)
/-- the class's answers -/
def aR (L : List Nat) (what : Int32) : Int32 := if L = [] then -6 else if what = 0 then nI (aB (aW L) 20).1 else nI (aB (aW L) 20).2
theorem a_class (N n : Nat) (hN : N = n + 100) (F : Nat → Bool) (σ : q_S) (hn : 29900 ≤ n) (hF : aF n F σ) : ∃ σ', f_X4_seekQuestion N 14 σ = some σ' ∧ (∀ q, q ≠ 80 → q ≠ 81 → σ'.1 q = σ.1 q) ∧ σ'.1 80 1 = aR (aL F 1400) 0 ∧ σ'.1 80 2 = aR (aL F 1400) 1 := by
  have ho : aO 81 σ (s_fill σ 81 0 400 0) := fun q hq => if_neg hq
  have hF2 : aF n F σ := hF
  obtain ⟨σ1, e1, o1, s1⟩ := a_f10 n F σ hF2 1400 0 N (s_fill σ 81 0 400 0) (by omega) (by omega) ho (fun x c hx hc => by
    show (if (81 : Nat) = 81 then (fun k => if 0 ≤ k ∧ k < 400 then (0 : Int32) else σ.1 81 k) else σ.1 81) (x * 20 + c) = _
    rw [if_pos rfl]
    show (if 0 ≤ x * 20 + c ∧ x * 20 + c < 400 then (0 : Int32) else σ.1 81 (x * 20 + c)) = _
    rw [if_pos (by omega)]
    rfl)
  have hl := aL_len F 1400
  have hlt := aL_lt F 1400
  unfold f_X4_seekQuestion f_X4_fillCrowds
  rw [s_fillI _ _ _ _ _ (by decide) (by omega)]
  simp only [Option.bind_some]
  rw [nI_0, ← hN] at e1
  rw [e1]
  simp only [Option.bind_some]
  generalize aL F 1400 = L at *
  have hz : ∀ x c, x < 20 → c < 20 → (q_w (q_w σ1 80 1 (-6)) 80 2 (-6)).1 81 (x * 20 + c) = nI (aK L x c) := fun x c hx hc => by
    rw [s_wn _ _ _ _ (by decide), s_wn _ _ _ _ (by decide)]
    exact s1 x c hx hc
  have hq1 : (q_w (q_w σ1 80 1 (-6)) 80 2 (-6)).1 80 1 = -6 := by rw [s_w1, s_un _ _ _ (by decide), s_w1, s_u1]
  have hq2 : (q_w (q_w σ1 80 1 (-6)) 80 2 (-6)).1 80 2 = -6 := by rw [s_w1, s_u1]
  have hfr : ∀ q, q ≠ 80 → q ≠ 81 → (q_w (q_w σ1 80 1 (-6)) 80 2 (-6)).1 q = σ.1 q := fun q h80 h81 => by
    rw [s_wn _ _ _ _ h80, s_wn _ _ _ _ h80]
    exact o1 q h81
  cases L with
  | nil =>
    have e2 := a_seek0 n _ hz 20 0 N (by omega) (by omega)
    rw [nI_0, ← hN] at e2
    refine ⟨q_w (q_w σ1 80 1 (-6)) 80 2 (-6), e2, hfr, ?_, ?_⟩
    · rw [hq1, aR, if_pos rfl]
    · rw [hq2, aR, if_pos rfl]
  | cons k L =>
    obtain ⟨σ2, e2, o2, x2, y2⟩ := a_seek n (q_w (q_w σ1 80 1 (-6)) 80 2 (-6)) (k :: L) hl (fun t ht => aW_pos k L t (hlt k List.mem_cons_self) ht) 20 0 N _ (by omega) (by omega) (fun _ _ => rfl) hz (by rw [hq1, aX, if_pos rfl]) (by rw [hq2, aY, if_pos rfl])
    rw [nI_0, ← hN] at e2
    refine ⟨σ2, e2, fun q h80 h81 => by rw [o2 q h80]; exact hfr q h80 h81, ?_, ?_⟩
    · rw [x2, aX, aR, if_neg (by decide), if_neg (List.cons_ne_nil _ _), if_pos rfl]
    · rw [y2, aY, aR, if_neg (by decide), if_neg (List.cons_ne_nil _ _), if_neg (by decide)]
