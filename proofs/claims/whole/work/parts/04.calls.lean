/-! contracts: how one is proved, how one is used -/
theorem q_good (y : MethodName) (cb : ByteArray) (nb : Nat) (rb : Option FieldType) (h : Cond.code y cb nb rb ∈ q_tbl) : GoodIn q_tbl (Cond.code y cb nb rb :: q_tbl) := by
  intro w hw
  have h1 : w ∈ q_tbl := by
    rcases List.mem_cons.mp hw with e | e
    · rw [e]; exact h
    · exact e
  exact ⟨h1, good_of_word (List.mem_filter.mp h1).2⟩
theorem q_met {Z : q_Z} {l : Launch} {y : MethodName} {cb : ByteArray} {nb : Nat} {rb : Option FieldType} {d : Nat} {av : List Value} {σ σ' : q_S} {o : Option Value} (hy : plainFor y = true) (hlen : (lg_sl av).length ≤ nb)
    (K : ∀ Γ : q_C, Γ.2.1 = l → q_B Z Γ cb y.cls nb d → q_E Z Γ rb o σ' → q_G Z Γ nb σ 0 (lv_args 0 av) []) : q_M Z l y cb nb rb d av σ o σ' := by
  refine va_MetF (cc := cb) (maxL := nb) (ret := rb) hy rfl ?_
  intro p e s m args below meth c s₁ B hml hv
  obtain ⟨rfl, hK, hN, hZ, hP, hD⟩ := hv
  have hts0 := atoms_spec (ws := Cond.code y cb nb rb :: q_tbl) B.pre
  rw [lg_entry_eq]
  exact K (p, l, e, (headSpec (Cond.code y cb nb rb :: q_tbl) (q_rm d)).room, s, m, av.toArray, below, meth, c, MQ below (q_Qc Z o σ') av.toArray s 0 0 (q_A Z), 0, 0) rfl
    ⟨⟨B.exec, B.bytes, hml, findClass_of_methodNamed B.named, fun w hw => hts0 w (List.mem_cons_of_mem _ hw)⟩, hK, hN, hZ, ⟨Nat.le_refl _, Nat.le_refl _⟩, Nat.zero_le _, Nat.zero_le _⟩
    ⟨rfl, B.returns, B.notSynchronized⟩ s.heap [] _ hP hD va_S.rf (lv_entry av hlen)
section
variable {p : Program} {l : Launch} {e : Env} {R : Room} {s : State} {m : MethodId} {args : Array Value} {below : List Frame} {meth : Method} {c : Code} {H : Heap} {locs : List Loc} {kc ks : Nat} {Q : State → Prop} {pc : Nat} {ls : Array Slot} {rest st0 : List Value} {a : Array Value} {Z : q_Z} {σ1 : q_S} {o : Option Value}
theorem q_call (hr : va_Run p l e R s m args below meth c H locs kc ks 0 0 (F0 m pc ls st0) rest (q_Qc Z o σ1 a) (q_A Z)) (hS : va_S (q_A Z) s.heap H locs)
    (kk : ∀ (H1 : Heap) (locs1 : List Loc), va_P Z.2.2.1 q_cls (q_ws Z σ1) H1 → va_D (q_A Z) (q_ws Z σ1) → va_S (q_A Z) s.heap H1 locs1 → W p l e R s m args below meth c H1 locs1 kc ks Q (F0 m (pc + 3) ls (o.toList ++ rest))) : W p l e R s m args below meth c H locs kc ks Q (F0 m pc ls st0) := by
  intro T hT X
  obtain ⟨v, st₀, t, T', L, h0, X', hL, e1, e2, ⟨hv, hw, hz, hk⟩, st⟩ := hr T hT X
  cases hv
  rw [h0] at hz hk
  obtain ⟨t2, a1, b1⟩ := kk T'.heap (locs ++ L) (by rw [e1]; exact hw.2.2.2.1) hw.2.2.2.2
    ⟨Nat.le_trans hS.1 (by rw [e1]; exact hz), fun q h1 h2 => by rw [e1, hk q (Nat.lt_of_lt_of_le h1 hS.1) h2]; exact hS.2.1 q h1 h2, fun q hq => by
      rcases List.mem_append.mp hq with h | h
      · exact hS.2.2 q h
      · exact hL q h⟩ T' rfl X'
  exact ⟨t2, st t2 a1, b1⟩
end
theorem q_blind (Z : q_Z) (As : List Value) (σ : q_S) : FrameBlind (va_Pc As (q_Wd Z σ)) := fun _ _ _ _ h => ⟨h.1, h.2.calling⟩
abbrev q_des (y : MethodName) (n : Nat) : Prop := y.cls ≠ "java/lang/invoke/MethodHandle" ∧ y.cls ≠ "java/lang/invoke/VarHandle" ∧ (parseMethodDescriptor y.desc).map (fun d => d.parameters.length) = some n
def q_wS (y : MethodName) (cb : ByteArray) (nb : Nat) (rb : Option FieldType) (n : Nat) : Prop := Cond.code y cb nb rb ∈ q_tbl ∧ Cond.static y ∈ q_tbl ∧ Cond.initialized y.cls ∈ q_tbl ∧ q_des y n
def q_wV (y : MethodName) (cb : ByteArray) (nb : Nat) (rb : Option FieldType) (n : Nat) : Prop := Cond.code y cb nb rb ∈ q_tbl ∧ Cond.instanceMethod y ∈ q_tbl ∧ Cond.selects y.cls y y ∈ q_tbl ∧ Cond.initialized y.cls ∈ q_tbl ∧ q_des y n
theorem g_callS {Z : q_Z} {Γ : q_C} {cc : ByteArray} {own : String} {nL d pc pc' : Nat} {σ : q_S} {lv : List (Nat × Value)} {st : List Value} {idx : Nat} {y : MethodName} {cb : ByteArray} {nb : Nat} {rb : Option FieldType} {d' n : Nat} {As rest : List Value} {o : Option Value} {σ1 : q_S} (B : q_B Z Γ cc own nL d) (hd : q_dec cc pc (.invokestatic idx) 3 pc') (M : q_M Z Γ.2.1 y cb nb rb d' As σ o σ1) (hw : q_wS y cb nb rb n) (hlink : Cond.methodLink own idx y ∈ q_tbl) (hn : As.length = n) (hst : st = As.reverse ++ rest) (hrm : (rest.map fun v => v.category).sum ≤ 8) (hdd : d' + 1 ≤ d) (hnb : nb ≤ 45) (K : q_G Z Γ nL σ1 pc' lv (o.toList ++ rest)) : q_G Z Γ nL σ pc lv st := by
  obtain ⟨p, l, e, R, s, m, args, below, meth, c, Q, kc, ks⟩ := Γ
  obtain ⟨⟨hx, hb, hml, hown, hts⟩, hK, hN, hZ, hR, hkc, hks⟩ := B
  obtain ⟨hd, rfl⟩ := hd
  intro H locs ls hP hD hS hl
  have hr := va_runS (R := R) (e := e) (below := below) (meth := meth) (H := H) (locs := locs) (cells := kc) (slots := ks) (rest := rest) (g := F0 m pc ls st) ⟨hx, hb, hml, hown, hts⟩ M ⟨callB_of n hts (q_good y cb nb rb hw.1) rfl rfl rfl (hts _ hw.2.2.1) (hts _ hlink) hw.2.2.2 ⟨by show d' + 1 ≤ _; omega, by show 8 + (nb + 11) + 64 * d' ≤ _; omega⟩, hts _ hw.2.1⟩ ⟨q_blind Z _ σ, fun U hU hW => ⟨rfl, va_K.moved hW.alike hK, q_N.warm hW hN, by rw [hU]; exact (q_Zs.moved hW.alike hZ).kept hS.2.1, by rw [hU]; exact hP, hD⟩⟩ rfl hn hl.1 hst (lv_room hrm) hd ⟨by omega, by omega⟩
  exact q_call hr hS (fun H1 locs1 hP1 hD1 hS1 => K H1 locs1 ls hP1 hD1 hS1 hl)
theorem g_callV {Z : q_Z} {Γ : q_C} {cc : ByteArray} {own : String} {nL d pc pc' : Nat} {σ : q_S} {lv : List (Nat × Value)} {st : List Value} {idx : Nat} {y : MethodName} {cb : ByteArray} {nb : Nat} {rb : Option FieldType} {d' n : Nat} {As rest : List Value} {o : Option Value} {σ1 : q_S} {p0 ci : Nat} {T : u_T} {N : Nat} {fs : List Value} (B : q_B Z Γ cc own nL d) (hd : q_dec cc pc (.invokevirtual idx) 3 pc') (M : q_M Z Γ.2.1 y cb nb rb d' (.ref (Z.1 p0) :: As) σ o σ1) (hw : q_wV y cb nb rb n) (hlink : Cond.methodLink own idx y ∈ q_tbl) (hp : p0 < 98) (he : q_cell Z.1 Z.2.1 p0 (σ.1 p0) (σ.2 p0) = .inr (ci, fs)) (hc : q_cls[ci]? = some (y.cls, T, N)) (hn : As.length = n) (hst : st = As.reverse ++ .ref (Z.1 p0) :: rest) (hrm : (rest.map fun v => v.category).sum ≤ 8) (hdd : d' + 1 ≤ d) (hnb : nb ≤ 45) (K : q_G Z Γ nL σ1 pc' lv (o.toList ++ rest)) : q_G Z Γ nL σ pc lv st := by
  obtain ⟨p, l, e, R, s, m, args, below, meth, c, Q, kc, ks⟩ := Γ
  obtain ⟨⟨hx, hb, hml, hown, hts⟩, hK, hN, hZ, hR, hkc, hks⟩ := B
  obtain ⟨hd, rfl⟩ := hd
  intro H locs ls hP hD hS hl
  have hr := va_runV (R := R) (e := e) (below := below) (meth := meth) (H := H) (locs := locs) (cells := kc) (slots := ks) (rest := rest) (g := F0 m pc ls st) ⟨hx, hb, hml, hown, hts⟩ M ⟨callB_of n hts (q_good y cb nb rb hw.1) rfl rfl rfl (hts _ hw.2.2.2.1) (hts _ hlink) hw.2.2.2.2 ⟨by show d' + 1 ≤ _; omega, by show 8 + (nb + 11) + 64 * d' ≤ _; omega⟩, hts _ hw.2.1, hts _ hw.2.2.1⟩ ⟨q_blind Z _ σ, va_recv hK hP hc (by rw [q_ws_at Z σ hp, he]), fun U hU hW => ⟨rfl, va_K.moved hW.alike hK, q_N.warm hW hN, by rw [hU]; exact (q_Zs.moved hW.alike hZ).kept hS.2.1, by rw [hU]; exact hP, hD⟩⟩ rfl hn hl.1 hst (lv_room hrm) hd ⟨by omega, by omega⟩
  exact q_call hr hS (fun H1 locs1 hP1 hD1 hS1 => K H1 locs1 ls hP1 hD1 hS1 hl)
theorem g_callSN {Z : q_Z} {Γ : q_C} {cc : ByteArray} {own : String} {nL d pc pc' : Nat} {σ : q_S} {lv : List (Nat × Value)} {st : List Value} {idx : Nat} {y : MethodName} {cb : ByteArray} {nb : Nat} {rb : Option FieldType} {d' n : Nat} {As rest : List Value} {o : Option Value} {σ1 : q_S} {host : String} (B : q_B Z Γ cc own nL d) (hd : q_dec cc pc (.invokestatic idx) 3 pc') (M : q_M Z Γ.2.1 y cb nb rb d' As σ o σ1) (hw : q_wS y cb nb rb n) (hlink : Cond.methodLinkNest own idx y host ∈ q_nst) (hn : As.length = n) (hst : st = As.reverse ++ rest) (hrm : (rest.map fun v => v.category).sum ≤ 8) (hdd : d' + 1 ≤ d) (hnb : nb ≤ 45) (K : q_G Z Γ nL σ1 pc' lv (o.toList ++ rest)) : q_G Z Γ nL σ pc lv st := by
  obtain ⟨p, l, e, R, s, m, args, below, meth, c, Q, kc, ks⟩ := Γ
  obtain ⟨⟨hx, hb, hml, hown, hts⟩, hK, hN, hZ, hR, hkc, hks⟩ := B
  obtain ⟨hd, rfl⟩ := hd
  intro H locs ls hP hD hS hl
  have hr := va_runSN (R := R) (e := e) (below := below) (meth := meth) (H := H) (locs := locs) (cells := kc) (slots := ks) (rest := rest) (g := F0 m pc ls st) ⟨hx, hb, hml, hown, hts⟩ M ⟨va_cnB n hts (q_good y cb nb rb hw.1) rfl rfl rfl (hN _ hlink) (hts _ hw.2.2.1) hw.2.2.2 ⟨by show d' + 1 ≤ _; omega, by show 8 + (nb + 11) + 64 * d' ≤ _; omega⟩, hts _ hw.2.1, trivial⟩ ⟨q_blind Z _ σ, fun U hU hW => ⟨rfl, va_K.moved hW.alike hK, q_N.warm hW hN, by rw [hU]; exact (q_Zs.moved hW.alike hZ).kept hS.2.1, by rw [hU]; exact hP, hD⟩⟩ rfl hn hl.1 hst (lv_room hrm) hd ⟨by omega, by omega⟩
  exact q_call hr hS (fun H1 locs1 hP1 hD1 hS1 => K H1 locs1 ls hP1 hD1 hS1 hl)
theorem g_callVN {Z : q_Z} {Γ : q_C} {cc : ByteArray} {own : String} {nL d pc pc' : Nat} {σ : q_S} {lv : List (Nat × Value)} {st : List Value} {idx : Nat} {y : MethodName} {cb : ByteArray} {nb : Nat} {rb : Option FieldType} {d' n : Nat} {As rest : List Value} {o : Option Value} {σ1 : q_S} {host : String} {p0 ci : Nat} {T : u_T} {N : Nat} {fs : List Value} (B : q_B Z Γ cc own nL d) (hd : q_dec cc pc (.invokevirtual idx) 3 pc') (M : q_M Z Γ.2.1 y cb nb rb d' (.ref (Z.1 p0) :: As) σ o σ1) (hw : q_wV y cb nb rb n) (hlink : Cond.methodLinkNest own idx y host ∈ q_nst) (hp : p0 < 98) (he : q_cell Z.1 Z.2.1 p0 (σ.1 p0) (σ.2 p0) = .inr (ci, fs)) (hc : q_cls[ci]? = some (y.cls, T, N)) (hn : As.length = n) (hst : st = As.reverse ++ .ref (Z.1 p0) :: rest) (hrm : (rest.map fun v => v.category).sum ≤ 8) (hdd : d' + 1 ≤ d) (hnb : nb ≤ 45) (K : q_G Z Γ nL σ1 pc' lv (o.toList ++ rest)) : q_G Z Γ nL σ pc lv st := by
  obtain ⟨p, l, e, R, s, m, args, below, meth, c, Q, kc, ks⟩ := Γ
  obtain ⟨⟨hx, hb, hml, hown, hts⟩, hK, hN, hZ, hR, hkc, hks⟩ := B
  obtain ⟨hd, rfl⟩ := hd
  intro H locs ls hP hD hS hl
  have hr := va_runVN (R := R) (e := e) (below := below) (meth := meth) (H := H) (locs := locs) (cells := kc) (slots := ks) (rest := rest) (g := F0 m pc ls st) ⟨hx, hb, hml, hown, hts⟩ M ⟨va_cnB n hts (q_good y cb nb rb hw.1) rfl rfl rfl (hN _ hlink) (hts _ hw.2.2.2.1) hw.2.2.2.2 ⟨by show d' + 1 ≤ _; omega, by show 8 + (nb + 11) + 64 * d' ≤ _; omega⟩, hts _ hw.2.1, hts _ hw.2.2.1⟩ ⟨q_blind Z _ σ, va_recv hK hP hc (by rw [q_ws_at Z σ hp, he]), fun U hU hW => ⟨rfl, va_K.moved hW.alike hK, q_N.warm hW hN, by rw [hU]; exact (q_Zs.moved hW.alike hZ).kept hS.2.1, by rw [hU]; exact hP, hD⟩⟩ rfl hn hl.1 hst (lv_room hrm) hd ⟨by omega, by omega⟩
  exact q_call hr hS (fun H1 locs1 hP1 hD1 hS1 => K H1 locs1 ls hP1 hD1 hS1 hl)
theorem q_sw {α : Type} {x c : Int32} {P1 P2 out : α} {G : Prop} (h : (if x = c then P1 else P2) = out) (k1 : x = c → P1 = out → G) (k2 : ¬ x = c → P2 = out → G) : G := by
  by_cases q : x = c
  · exact k1 q (by rw [if_pos q] at h; exact h)
  · exact k2 q (by rw [if_neg q] at h; exact h)
theorem q_ne {x c : Int32} {n : Int} (h : ¬ x = c) (hc : c.toInt = n) : ¬ x.toInt = n := fun q => h (Int32.toInt_inj.mp (by rw [q, hc]))
theorem g_tswIn {Z : q_Z} {Γ : q_C} {cc : ByteArray} {own : String} {nL d pc pc' : Nat} {σ : q_S} {lv : List (Nat × Value)} {st : List Value} {dflt lo hi : Int} {offs : Array Int} {len : Nat} {x c0 : Int32} {off : Int} {tgt : Nat} (B : q_B Z Γ cc own nL d) (hd : q_dec cc pc (.tableswitch dflt lo hi offs) len pc') (e0 : x = c0) (h1 : ¬ c0.toInt < lo) (h2 : ¬ hi < c0.toInt) (ho : offs[(c0.toInt - lo).toNat]? = some off) (ht : (pc : Int) + off = (tgt : Int)) (K : q_G Z Γ nL σ tgt lv st) : q_G Z Γ nL σ pc lv (.int x :: st) := by
  subst e0
  obtain ⟨p, l, e, R, s, m, args, below, meth, c, Q, kc, ks⟩ := Γ
  obtain ⟨⟨hx, hb, hml, hown, hts⟩, hK, hN, hZ, hR, hkc, hks⟩ := B
  obtain ⟨hd, rfl⟩ := hd
  intro H locs ls hP hD hS hl
  exact lv_tableIn hx hb hd h1 h2 ho ht (K H locs ls hP hD hS hl)
theorem g_tswOut {Z : q_Z} {Γ : q_C} {cc : ByteArray} {own : String} {nL d pc pc' : Nat} {σ : q_S} {lv : List (Nat × Value)} {st : List Value} {dflt lo hi : Int} {offs : Array Int} {len : Nat} {x : Int32} {tgt : Nat} (B : q_B Z Γ cc own nL d) (hd : q_dec cc pc (.tableswitch dflt lo hi offs) len pc') (h1 : x.toInt < lo ∨ hi < x.toInt) (ht : (pc : Int) + dflt = (tgt : Int)) (K : q_G Z Γ nL σ tgt lv st) : q_G Z Γ nL σ pc lv (.int x :: st) := by
  obtain ⟨p, l, e, R, s, m, args, below, meth, c, Q, kc, ks⟩ := Γ
  obtain ⟨⟨hx, hb, hml, hown, hts⟩, hK, hN, hZ, hR, hkc, hks⟩ := B
  obtain ⟨hd, rfl⟩ := hd
  intro H locs ls hP hD hS hl
  exact lv_tableOut hx hb hd h1 ht (K H locs ls hP hD hS hl)
theorem g_lsw {Z : q_Z} {Γ : q_C} {cc : ByteArray} {own : String} {nL d pc pc' : Nat} {σ : q_S} {lv : List (Nat × Value)} {st : List Value} {dflt : Int} {ps : Array (Int × Int)} {len : Nat} {x : Int32} {off : Int} {tgt : Nat} (B : q_B Z Γ cc own nL d) (hd : q_dec cc pc (.lookupswitch dflt ps) len pc') (hs : (ps.toList.zip (ps.toList.drop 1)).all (fun (a, next) => a.1 < next.1) = true) (ho : Op.lookupswitch.offset ps.toList dflt x.toInt = off) (ht : (pc : Int) + off = (tgt : Int)) (K : q_G Z Γ nL σ tgt lv st) : q_G Z Γ nL σ pc lv (.int x :: st) := by
  obtain ⟨p, l, e, R, s, m, args, below, meth, c, Q, kc, ks⟩ := Γ
  obtain ⟨⟨hx, hb, hml, hown, hts⟩, hK, hN, hZ, hR, hkc, hks⟩ := B
  obtain ⟨hd, rfl⟩ := hd
  intro H locs ls hP hD hS hl
  exact lv_lookup hx hb hd hs ho ht (K H locs ls hP hD hS hl)
def q_cp (σ : q_S) (p0 p1 sp dp n : Nat) : q_S := (fun p => if p = p1 then va_cpy (σ.1 p0) (σ.1 p1) sp dp n else σ.1 p, σ.2)
theorem g_copy {Z : q_Z} {Γ : q_C} {cc : ByteArray} {own : String} {nL d pc pc' : Nat} {σ : q_S} {lv : List (Nat × Value)} {st : List Value} {idx : Nat} {p0 p1 n0 n1 : Nat} {sp dp n : Int32} (B : q_B Z Γ cc own nL d) (hd : q_dec cc pc (.invokestatic idx) 3 pc') (hlink : Cond.methodLink own idx arraycopyName ∈ q_tbl) (hnat : Cond.native arraycopyName ∈ q_tbl) (hstat : Cond.static arraycopyName ∈ q_tbl) (hini : Cond.initialized "java/lang/System" ∈ q_tbl) (hp0 : p0 < 98) (hp1 : p1 < 98)
    (he0 : ∀ f g, q_cell Z.1 Z.2.1 p0 f g = .inl (Z.2.1 0, n0, .inl f)) (he1 : ∀ f g, q_cell Z.1 Z.2.1 p1 f g = .inl (Z.2.1 0, n1, .inl f)) (h1 : ¬ sp < 0) (h2 : ¬ dp < 0) (h3 : ¬ n < 0) (h4 : sp.toNatClampNeg + n.toNatClampNeg ≤ n0) (h5 : dp.toNatClampNeg + n.toNatClampNeg ≤ n1) (hd1 : 1 ≤ d) (hrm : (st.map fun v => v.category).sum ≤ 8)
    (K : q_G Z Γ nL (q_cp σ p0 p1 sp.toNatClampNeg dp.toNatClampNeg n.toNatClampNeg) pc' lv st) : q_G Z Γ nL σ pc lv (.int n :: .int dp :: .ref (Z.1 p1) :: .int sp :: .ref (Z.1 p0) :: st) := by
  obtain ⟨p, l, e, R, s, m, args, below, meth, c, Q, kc, ks⟩ := Γ
  obtain ⟨⟨hx, hb, hml, hown, hts⟩, hK, hN, hZ, hR, hkc, hks⟩ := B
  obtain ⟨hd, rfl⟩ := hd
  intro H locs ls hP hD hS hl
  have hnw : nativeFrameWords "java/lang/System" "arraycopy" 5 ≤ 40 := by decide +kernel
  refine va_copyi (rest := st) (R := R) hx hb (hml.trans hl.1.symm) hown (hts _ hlink) (hts _ hnat) (hts _ hstat) (hts _ hini) hK hP hD hS p0 p1 0 0 (by rw [q_ws_at Z σ hp0, he0]) (by rw [q_ws_at Z σ hp1, he1]) rfl rfl rfl h1 h2 h3 h4 h5 (fun _ _ => rfl) (by omega) (by omega) hd (fun H1 locs1 hP1 hD1 hS1 => ?_)
  have e1 : (q_ws Z σ).set p1 (Z.1 p1, .inl (Z.2.1 0, n1, .inl (va_cpy (σ.1 p0) (σ.1 p1) sp.toNatClampNeg dp.toNatClampNeg n.toNatClampNeg))) = q_ws Z (q_cp σ p0 p1 sp.toNatClampNeg dp.toNatClampNeg n.toNatClampNeg) := q_ws_ext hp1 (by rw [he1]; simp [q_cp]) (fun q hq => ⟨if_neg hq, rfl⟩)
  rw [e1] at hP1 hD1
  exact K H1 locs1 ls hP1 hD1 hS1 hl
