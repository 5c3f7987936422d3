/-! ask: the reference's side -/
theorem a_skip (n : Nat) (x1 x2 : Int32) (τ : q_S) : ∀ (d x m : Nat), (∀ y, x ≤ y → y < x + d → 7 ≤ y / 10 % 100 ∧ y < 20000) → f_X10_ask_16 (n + 100) x1 (m + d) x2 (nI x) τ = f_X10_ask_16 (n + 100) x1 m x2 (nI (x + d)) τ := by
  intro d
  induction d with
  | zero =>
    intro x m h
    rfl
  | succ d ih =>
    intro x m h
    obtain ⟨h1, h2⟩ := h x (by omega) (by omega)
    rw [show m + (d + 1) = m + d + 1 from rfl, f_X10_ask_16, if_neg (show ¬ (20000 : Int32) ≤ nI x from nI_ge (b := 20000) h2 (by decide)), s_nofit n x h2 h1 τ]
    simp only [Option.bind_some, if_true]
    rw [nI_1, ih (x + 1) m (fun y a b => h y (by omega) (by omega)), show x + 1 + d = x + (d + 1) by omega]
theorem a_adv (n : Nat) (x1 x2 : Int32) (τ : q_S) (k M : Nat) (hk : k < 1400) (hM : 20000 - fcd k - 1 < M) : ∃ M', 20000 - fcd (k + 1) < M' ∧ f_X10_ask_16 (n + 100) x1 M x2 (nI (fcd k + 1)) τ = f_X10_ask_16 (n + 100) x1 M' x2 (nI (fcd (k + 1))) τ := by
  by_cases h : (k + 1) % 70 = 0
  · have e : fcd (k + 1) = fcd k + 1 + 930 := by
      unfold fcd
      omega
    have hc : fcd (k + 1) ≤ 20000 := by
      unfold fcd
      omega
    refine ⟨M - 930, by omega, ?_⟩
    obtain ⟨M', rfl⟩ : ∃ j, M = j + 930 := ⟨M - 930, by omega⟩
    rw [a_skip n x1 x2 τ 930 (fcd k + 1) M' (fun y a b => ?_), e, Nat.add_sub_cancel]
    · have e2 : fcd k = 1000 * (k / 70) + 69 := by
        unfold fcd
        omega
      constructor <;> omega
  · have e : fcd (k + 1) = fcd k + 1 := by
      unfold fcd
      omega
    exact ⟨M, by omega, by rw [e]⟩
/-- the place 92 holds the codes of L -/
def aQ (L : List Nat) (σ : q_S) : Prop := ∀ A y B, L = A ++ y :: B → σ.1 92 A.length = nI (fcd y)
theorem aQ_app (L : List Nat) (x : Nat) (σ : q_S) (h : aQ L σ) : aQ (L ++ [x]) (q_w σ 92 L.length (nI (fcd x))) := by
  intro A y B e
  rw [s_w1]
  rcases List.eq_nil_or_concat B with hB | ⟨B', z, hB⟩
  · subst hB
    obtain ⟨e1, e2⟩ := List.append_inj' e rfl
    have e3 : x = y := by
      cases e2
      rfl
    rw [e1, e3, s_u1]
  · subst hB
    rw [List.concat_eq_append, show A ++ y :: (B' ++ [z]) = (A ++ y :: B') ++ [z] by simp] at e
    obtain ⟨e1, e2⟩ := List.append_inj' e rfl
    have hne : A.length ≠ L.length := by
      rw [e1, List.length_append, List.length_cons]
      omega
    rw [s_un _ _ _ hne]
    exact h A y B' e1
theorem a_r16 (n : Nat) (x1 : Int32) (F : Nat → Bool) (σ0 : q_S) (hF : aF n F σ0) : ∀ (d k m : Nat) (σ : q_S), k + d = 1400 → 20000 - fcd k < m → aO 92 σ0 σ → aQ (aL F k) σ → ∃ σ', f_X10_ask_16 (n + 100) x1 m (nI (aL F k).length) (nI (fcd k)) σ = f_X10_ask_57 (n + 100) x1 (nI (aL F 1400).length) (n + 100) (-6) 1000000 0 σ' ∧ aO 92 σ0 σ' ∧ aQ (aL F 1400) σ' := by
  intro d
  induction d with
  | zero =>
    intro k m σ hj hm ho hs
    obtain ⟨m, rfl⟩ : ∃ m', m = m' + 1 := ⟨m - 1, by omega⟩
    have e : k = 1400 := by omega
    subst e
    refine ⟨σ, ?_, ho, hs⟩
    rw [f_X10_ask_16, if_pos (show (20000 : Int32) ≤ nI (fcd 1400) by decide)]
  | succ d ih =>
    intro k m σ hj hm ho hs
    obtain ⟨m, rfl⟩ : ∃ m', m = m' + 1 := ⟨m - 1, by omega⟩
    have hk : k < 1400 := by omega
    have hcl := fcd_le hk
    have hl := aL_len F k
    have hF2 : aF n F σ := aF_congr (fun p a b => ho p (by omega)) (by rw [ho 84 (by decide)]) (ho 88 (by decide)) hF
    rw [f_X10_ask_16, if_neg (show ¬ (20000 : Int32) ≤ nI (fcd k) from nI_ge (b := 20000) hcl (by decide)), (hF2 k hk).2]
    simp only [Option.bind_some]
    by_cases hFk : F k = true
    · rw [hFk, if_neg (show ¬ bz true = 0 by decide), if_pos (nI_in (show (aL F k).length < 1400 by omega) (by decide)), nI_clamp (by omega), nI_1, nI_1]
      obtain ⟨M', hM', eM⟩ := a_adv n x1 (nI ((aL F k).length + 1)) (q_w σ 92 (aL F k).length (nI (fcd k))) k m hk (by omega)
      rw [eM]
      have hq := aQ_app (aL F k) k σ hs
      have h := ih (k + 1) M' (q_w σ 92 (aL F k).length (nI (fcd k))) (by omega) hM' (fun q hq => by rw [s_wn _ _ _ _ hq]; exact ho q hq)
      rw [show aL F (k + 1) = aL F k ++ [k] by rw [aL, if_pos hFk], List.length_append] at h
      exact h hq
    · have hFk2 : F k = false := by
        cases hh : F k
        · rfl
        · exact absurd hh hFk
      rw [hFk2, if_pos (show bz false = 0 by decide), nI_1]
      obtain ⟨M', hM', eM⟩ := a_adv n x1 (nI (aL F k).length) σ k m hk (by omega)
      rw [eM]
      have h := ih (k + 1) M' σ (by omega) hM' ho
      rw [show aL F (k + 1) = aL F k by rw [aL, if_neg hFk]] at h
      exact h hs
theorem a_r74 (N : Nat) (k57 : Int32 → Int32 → Int32 → q_S → Option (Int32 × q_S)) (x1 x2 x3 x4 x5 x6 : Int32) (σ0 : q_S) : ∀ (d c m : Nat) (σ : q_S), c + d = 20 → d < m → aO 93 σ0 σ → (∀ j, j < c → σ.1 93 j = 0) → ∃ σ', f_X10_ask_74 N k57 x1 x2 x3 x4 x5 x6 m (nI c) σ = f_X10_ask_98 N k57 x1 x2 x3 x4 x5 N x6 0 σ' ∧ aO 93 σ0 σ' ∧ ∀ j, j < 20 → σ'.1 93 j = 0 := by
  intro d
  induction d with
  | zero =>
    intro c m σ hj hm ho hs
    obtain ⟨m, rfl⟩ : ∃ m', m = m' + 1 := ⟨m - 1, by omega⟩
    have e : c = 20 := by omega
    subst e
    exact ⟨σ, by rw [f_X10_ask_74, if_pos (show (20 : Int32) ≤ nI 20 by decide)], ho, hs⟩
  | succ d ih =>
    intro c m σ hj hm ho hs
    obtain ⟨m, rfl⟩ : ∃ m', m = m' + 1 := ⟨m - 1, by omega⟩
    have hc : c < 20 := by omega
    rw [f_X10_ask_74, if_neg (show ¬ (20 : Int32) ≤ nI c from nI_ge (b := 20) hc (by decide)), if_pos (nI_in hc (by decide)), nI_clamp (by omega), nI_1]
    refine ih (c + 1) m _ (by omega) (by omega) (fun q hq => by rw [s_wn _ _ _ _ hq]; exact ho q hq) (fun j h => ?_)
    rw [s_w1]
    by_cases hjc : j = c
    · rw [hjc, s_u1]
    · rw [s_un _ _ _ hjc]
      exact hs j (by omega)
theorem a_r98 (N : Nat) (k57 : Int32 → Int32 → Int32 → q_S → Option (Int32 × q_S)) (x1 x3 x4 : Int32) (L : List Nat) (hL : L.length ≤ 1400) (hL2 : ∀ k, k ∈ L → k < 1400) (t : Nat) (ht : t < 61) (σ0 : q_S) (hQ : aQ L σ0) : ∀ (B A : List Nat) (m : Nat) (σ : q_S), L = A ++ B → B.length < m → aO 93 σ0 σ → (∀ c, c < 20 → σ.1 93 c = nI (aK A t c)) → ∃ σ', f_X10_ask_98 N k57 x1 (nI L.length) x3 x4 (nI t) m (nI (aW A t)) (nI A.length) σ = (if x4 ≤ nI (aW L t) then k57 x3 x4 (nI (t + 1)) σ' else k57 (nI t) (nI (aW L t)) (nI (t + 1)) σ') ∧ aO 93 σ0 σ' := by
  intro B
  induction B with
  | nil =>
    intro A m σ e hm ho hs
    obtain ⟨m, rfl⟩ : ∃ m', m = m' + 1 := ⟨m - 1, by omega⟩
    rw [List.append_nil] at e
    subst e
    refine ⟨σ, ?_, ho⟩
    rw [f_X10_ask_98, if_pos (nI_le (Nat.le_refl _) (by omega))]
    unfold f_X10_ask_174
    by_cases h : x4 ≤ nI (aW L t)
    · rw [if_pos h, if_pos h, if_pos h, nI_1]
    · rw [if_neg h, if_neg h, if_neg h, nI_1]
  | cons k B ih =>
    intro A m σ e hm ho hs
    rw [List.length_cons] at hm
    obtain ⟨m, rfl⟩ : ∃ m', m = m' + 1 := ⟨m - 1, by omega⟩
    have hlen : A.length < L.length := by
      rw [e, List.length_append, List.length_cons]
      omega
    have hk : k < 1400 := hL2 k (by rw [e]; exact List.mem_append_right _ List.mem_cons_self)
    obtain ⟨c1, c2, c3⟩ := a_cell k t hk ht
    have h92 : σ.1 92 A.length = nI (fcd k) := by
      rw [ho 92 (by decide)]
      exact hQ A k B e
    have hA : (A ++ [k]).length ≤ 1400 := by
      rw [List.length_append, List.length_singleton]
      omega
    have hb1 := aK_len (A ++ [k]) t (aC k t)
    have hb2 := aW_len A t
    have hcnt : σ.1 93 (aC k t) + 1 = nI (aK (A ++ [k]) t (aC k t)) := by
      rw [hs _ c3, nI_1, aK_app, if_pos rfl]
    rw [f_X10_ask_98, if_neg (nI_ge hlen (by omega)), nI_clamp (show A.length < _ by omega), if_pos (s_ik (show A.length < 1400 by omega) (by decide)), h92, c2, if_pos (nI_in c3 (by decide)), nI_clamp (show aC k t < _ by omega), hcnt, s_w1, s_u1, nI_1]
    have e2 : L = (A ++ [k]) ++ B := by
      rw [e]
      simp
    have h := ih (A ++ [k]) m (q_w σ 93 (aC k t) (nI (aK (A ++ [k]) t (aC k t)))) e2 (by omega) (fun q hq => by rw [s_wn _ _ _ _ hq]; exact ho q hq) (fun c hc => by
      rw [s_w1]
      by_cases hcc : c = aC k t
      · rw [hcc, s_u1]
      · rw [s_un _ _ _ hcc, hs c hc, aK_app, if_neg (fun q => hcc q.symm)]
        rfl)
    rw [aW_app A k t hk ht, List.length_append, List.length_singleton] at h
    by_cases hw : aK (A ++ [k]) t (aC k t) ≤ aW A t
    · rw [if_pos hw] at h
      rw [if_pos (nI_le hw (by omega))]
      exact h
    · rw [if_neg hw] at h
      rw [if_neg (nI_ge (by omega) (by omega))]
      exact h
theorem a_r57 (n : Nat) (hn : 29900 ≤ n) (x1 : Int32) (L : List Nat) (hL : L.length ≤ 1400) (hL2 : ∀ k, k ∈ L → k < 1400) (h0 : 0 < L.length) (σ0 : q_S) (hQ : aQ L σ0) : ∀ (d t m : Nat) (σ : q_S), t + d = 61 → d < m → aO 93 σ0 σ → ∃ σ', f_X10_ask_57 (n + 100) x1 (nI L.length) m (aX (aW L) t) (nI (aB (aW L) t).2) (nI t) σ = some (if x1 = 0 then nI (aB (aW L) 61).1 else nI (aB (aW L) 61).2, σ') ∧ aO 93 σ0 σ' := by
  have hW : ∀ t, aW L t ≤ 1400 := fun t => Nat.le_trans (aW_len L t) hL
  intro d
  induction d with
  | zero =>
    intro t m σ ht hm ho
    obtain ⟨m, rfl⟩ : ∃ m', m = m' + 1 := ⟨m - 1, by omega⟩
    have e : t = 61 := by omega
    subst e
    refine ⟨σ, ?_, ho⟩
    have hb := aB_bd (aW L) hW 61 (by decide)
    rw [f_X10_ask_57, if_pos (show (61 : Int32) ≤ nI 61 by decide), f_X10_ask_197, show aX (aW L) 61 = nI (aB (aW L) 61).1 from rfl, if_neg (nI_pos (by omega))]
    by_cases hx : x1 = 0
    · rw [if_pos hx, if_pos hx]
    · rw [if_neg hx, if_neg hx]
  | succ d ih =>
    intro t m σ ht hm ho
    obtain ⟨m, rfl⟩ : ∃ m', m = m' + 1 := ⟨m - 1, by omega⟩
    have ht2 : t < 61 := by omega
    have hb := aB_bd (aW L) hW t (by omega)
    have hWt := hW t
    rw [f_X10_ask_57, if_neg (show ¬ (61 : Int32) ≤ nI t from nI_ge (b := 61) ht2 (by decide)), if_neg (nI_nle h0 (by omega))]
    obtain ⟨σ1, e1, o1, z1⟩ := a_r74 (n + 100) (fun x3 x4 x5 σ => f_X10_ask_57 (n + 100) x1 (nI L.length) m x3 x4 x5 σ) x1 (nI L.length) (aX (aW L) t) (nI (aB (aW L) t).2) (nI t) 0 σ0 20 0 (n + 100) σ (by omega) (by omega) ho (fun j h => by omega)
    obtain ⟨σ2, e2, o2⟩ := a_r98 (n + 100) (fun x3 x4 x5 σ => f_X10_ask_57 (n + 100) x1 (nI L.length) m x3 x4 x5 σ) x1 (aX (aW L) t) (nI (aB (aW L) t).2) L hL hL2 t ht2 σ0 hQ L [] (n + 100) σ1 rfl (by omega) o1 (fun c hc => z1 c hc)
    rw [show nI (aW [] t) = 0 by rw [aW_nil]; rfl, show nI (List.length ([] : List Nat)) = 0 from rfl] at e2
    rw [show f_X10_ask_74 (n + 100) (fun x3 x4 x5 σ => f_X10_ask_57 (n + 100) x1 (nI L.length) m x3 x4 x5 σ) x1 (nI L.length) (aX (aW L) t) (nI (aB (aW L) t).2) (nI t) 0 (n + 100) 0 σ = _ from e1, e2]
    have h := ih (t + 1) m σ2 (by omega) (by omega) o2
    by_cases hlt : aW L t < (aB (aW L) t).2
    · rw [show aX (aW L) (t + 1) = nI t by rw [aX, if_neg (by omega), aB, if_pos hlt], show (aB (aW L) (t + 1)).2 = aW L t by rw [aB, if_pos hlt]] at h
      rw [if_neg (nI_ge hlt (by omega))]
      exact h
    · have ht0 : ¬ t = 0 := fun q => by
        subst q
        exact hlt (show aW L 0 < 1000000 by omega)
      rw [show aX (aW L) (t + 1) = aX (aW L) t by rw [aX, if_neg (by omega), aX, if_neg ht0, aB, if_neg hlt], show (aB (aW L) (t + 1)).2 = (aB (aW L) t).2 by rw [aB, if_neg hlt]] at h
      rw [if_pos (nI_le (by omega) (by omega))]
      exact h
theorem o_ask (N n : Nat) (hN : N = n + 100) (hn : 29900 ≤ n) (x : Int32) : Ok (f_X9_ask N x) (f_X10_ask N x) := by
  intro σ h
  unfold f_X9_ask f_X10_ask
  rw [s_wI, s_wM]
  by_cases hx : 0 ≤ x ∧ x ≤ 1
  · rw [if_pos hx]
    simp only [show ¬ ((1 : Int32) = 0) by decide, if_false]
    obtain ⟨F, hF⟩ := aF_ex n h
    obtain ⟨σ1, e1, o1, r1, r2⟩ := a_class N n hN F σ hn hF
    have hF1 : aF n F σ1 := aF_congr (fun p a b => o1 p (by omega) (by omega)) (by rw [o1 84 (by decide) (by decide)]) (o1 88 (by decide) (by decide)) hF
    obtain ⟨σ2, e2, o2, q2⟩ := a_r16 n x F σ1 hF1 1400 0 N σ1 (by omega) (by show 20000 - 0 < N; omega) (fun _ _ => rfl) (fun A y B e => by cases A <;> cases e)
    have e2' : f_X10_ask_16 N x N 0 0 σ1 = f_X10_ask_57 N x (nI (aL F 1400).length) N (-6) 1000000 0 σ2 := by
      rw [← hN, show aL F 0 = [] from rfl, show fcd 0 = 0 from rfl, List.length_nil, nI_0] at e2
      exact e2
    have hl := aL_len F 1400
    have hlt := aL_lt F 1400
    rw [e1]
    simp only [Option.bind_some]
    generalize aL F 1400 = L at *
    have hrel : ∀ τ : q_S, (∀ q, q ≠ 80 → q ≠ 81 → q ≠ 92 → q ≠ 93 → τ.1 q = σ.1 q) → Rel τ := fun τ hτ => Rel_congr (fun p _ hp => hτ p (by omega) (by omega) (by omega) (by omega)) (fun k _ => by rw [hτ 84 (by decide) (by decide) (by decide) (by decide)]) h
    cases L with
    | nil =>
      refine ⟨-6, σ1, σ2, ?_, ?_, hrel σ2 (fun q a b c d => by rw [o2 q c]; exact o1 q a b)⟩
      · rw [r1, r2]
        rw [aR, if_pos rfl, aR, if_pos rfl, ite_self]
      · obtain ⟨N', hN'⟩ : ∃ N', N = N' + 1 := ⟨N - 1, by omega⟩
        rw [e2', hN', List.length_nil, nI_0, f_X10_ask_57, if_neg (by decide), if_pos (by decide), f_X10_ask_197, if_pos (by decide)]
    | cons k L =>
      obtain ⟨σ3, e3, o3⟩ := a_r57 n hn x (k :: L) hl hlt (Nat.succ_pos _) σ2 q2 61 0 N σ2 (by omega) (by omega) (fun _ _ => rfl)
      have e3' : f_X10_ask_57 N x (nI (k :: L).length) N (-6) 1000000 0 σ2 = some (if x = 0 then nI (aB (aW (k :: L)) 61).1 else nI (aB (aW (k :: L)) 61).2, σ3) := by
        rw [← hN, nI_0, aX, if_pos rfl, aB] at e3
        exact e3
      have hper : aB (aW (k :: L)) 61 = aB (aW (k :: L)) 20 := aB_per (aW (k :: L)) (fun t ht => aW_per (k :: L) t hlt ht) 41 (by decide)
      refine ⟨if x = 0 then nI (aB (aW (k :: L)) 20).1 else nI (aB (aW (k :: L)) 20).2, σ1, σ3, ?_, by rw [e2', e3', hper], hrel σ3 (fun q a b c d => by rw [o3 q d, o2 q c]; exact o1 q a b)⟩
      rw [r1, r2]
      by_cases hx0 : x = 0
      · rw [if_pos hx0, if_pos hx0, aR, if_neg (List.cons_ne_nil _ _), if_pos rfl]
      · rw [if_neg hx0, if_neg hx0, aR, if_neg (List.cons_ne_nil _ _), if_neg (by decide)]
  · rw [if_neg hx]
    simp only [if_true]
    exact ⟨-2, σ, σ, rfl, rfl, h⟩
