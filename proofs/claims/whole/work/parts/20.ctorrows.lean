def c_V (D : va_G) (X : Nat → ClassId) (U : State) : Prop := va_K D q_cls (q_tys X) U ∧ q_N U ∧ va_AO "WaterOthers$Walker" U ∧ va_AO "WaterOthers$Reach" U
theorem c_V.warm {D : va_G} {X : Nat → ClassId} {s U : State} (hW : s.WarmedH U.vm) (h : c_V D X s) : c_V D X U := ⟨va_K.moved hW.alike h.1, q_N.warm hW h.2.1, h.2.2.1.moved hW.alike, h.2.2.2.moved hW.alike⟩
theorem c_V.calling {D : va_G} {X : Nat → ClassId} {U : State} {g : JFrame} {mk : MethodId} {a : Array Value} (h : c_V D X U) : c_V D X (U.calling g mk a) :=
  ⟨va_K.moved (u := U) (U := U.calling g mk a) (Vm.Alike.refl U.vm) h.1, q_N.same (s := U) (U := U.calling g mk a) rfl h.2.1, va_AO.moved (u := U) (U := U.calling g mk a) (Vm.Alike.refl U.vm) h.2.2.1, va_AO.moved (u := U) (U := U.calling g mk a) (Vm.Alike.refl U.vm) h.2.2.2⟩
def c_A (h0 sz : Nat) : Nat → Prop := fun q => q = h0 ∨ sz ≤ q
def c_rm (d mc ms : Nat) : Room := { frames := d, cells := mc, slots := ms, locals := 64 * d }
def c_Qc (D : va_G) (h0 sz : Nat) (Rs : (Nat → Nat → Nat) → va_W) : Array Value → State → Outcome → State → Prop := fun _ st oc t => oc = .returned none ∧ (∃ a : Nat → Nat → Nat, a 0 0 = h0 ∧ va_P D q_cls (Rs a) t.heap ∧ va_D (c_A h0 sz) (Rs a)) ∧ va_F (c_A h0 sz) st t
/-- a constructor's contract: of a cell with first values it makes the cells Rs a, mc new ones of ms slots -/
def c_M (D : va_G) (X : Nat → ClassId) (l : Launch) (y : MethodName) (cb : ByteArray) (nb d mc ms ci : Nat) (fs : List Value) (Rs : (Nat → Nat → Nat) → va_W) : Prop :=
  ∀ h0 sz : Nat, Met l y (Cond.code y cb nb none :: q_tbl) (c_rm d mc ms) (va_Pc [.ref h0] (fun U => U.heap.size = sz ∧ c_V D X U ∧ va_P D q_cls [(h0, .inr (ci, fs))] U.heap)) (c_Qc D h0 sz Rs) mc ms (c_A h0 sz)
def c_B (D : va_G) (X : Nat → ClassId) (A : Nat → Prop) (Γ : q_C) (cc : ByteArray) (own : String) (nL d kc ks : Nat) : Prop := match Γ with
  | (p, _, _, R, s, m, args, _, _, c, _, _, _) => CallFix p m c cc nL s args q_tbl own ∧ c_V D X s ∧ (∀ q, s.heap.size ≤ q → A q) ∧ (d ≤ R.frames ∧ 64 * d ≤ R.locals) ∧ kc ≤ R.cells ∧ ks ≤ R.slots
def c_G (D : va_G) (A : Nat → Prop) (Γ : q_C) (nL : Nat) (ws : va_W) (k n : Nat) (pc : Nat) (lv : List (Nat × Value)) (st : List Value) : Prop := match Γ with
  | (p, l, e, R, s, m, args, below, meth, c, Q, _, _) => ∀ (H : Heap) (locs : List Loc) (ls : Array Slot), va_P D q_cls ws H → va_D A ws → va_S A s.heap H locs → lv_has ls nL lv → W p l e R s m args below meth c H locs k n Q (F0 m pc ls st)
def c_E (D : va_G) (Γ : q_C) (h0 mc ms : Nat) (Rs : (Nat → Nat → Nat) → va_W) : Prop := match Γ with
  | (_, _, _, _, s, _, args, below, meth, _, Q, _, _) => Q = MQ below (c_Qc D h0 s.heap.size Rs) args s mc ms (c_A h0 s.heap.size) ∧ meth.sig.returnType = none ∧ meth.locks = false ∧ meth.name = "<init>"
def c_sz (Γ : q_C) : Nat := Γ.2.2.2.2.1.heap.size
theorem c_same {U : State} {a b : ClassId} {ty : FieldType} (h1 : va_RA U a ty) (h2 : va_RA U b ty) : a = b := by
  cases ty with
  | object C =>
    obtain ⟨_, _, _, _, _, h3⟩ := h1
    obtain ⟨_, _, _, _, _, h4⟩ := h2
    exact Option.some.inj (h3.symm.trans h4)
  | _ => exact Option.some.inj (Eq.trans (Eq.symm h1) h2)
theorem c_met {D : va_G} {X : Nat → ClassId} {l : Launch} {y : MethodName} {cb : ByteArray} {nb d mc ms ci : Nat} {fs : List Value} {Rs : (Nat → Nat → Nat) → va_W} (hy : plainFor y = true) (hnm : y.name = "<init>") (hnb : 1 ≤ nb)
    (K : ∀ (h0 : Nat) (Γ : q_C), Γ.2.1 = l → c_B D X (c_A h0 (c_sz Γ)) Γ cb y.cls nb d mc ms → c_E D Γ h0 mc ms Rs → c_G D (c_A h0 (c_sz Γ)) Γ nb [(h0, .inr (ci, fs))] 0 0 0 [(0, .ref h0)] []) : c_M D X l y cb nb d mc ms ci fs Rs := by
  intro h0 sz
  refine va_MetF (cc := cb) (maxL := nb) (ret := none) hy rfl ?_
  intro p e s m args below meth c s₁ B hml hv
  obtain ⟨rfl, hsz, hV, hP⟩ := hv
  subst hsz
  have hts0 := atoms_spec (ws := Cond.code y cb nb none :: q_tbl) B.pre
  rw [lg_entry_eq]
  exact K h0 (p, l, e, (headSpec (Cond.code y cb nb none :: q_tbl) (c_rm d mc ms)).room, s, m, [Value.ref h0].toArray, below, meth, c, MQ below (c_Qc D h0 s.heap.size Rs) [Value.ref h0].toArray s mc ms (c_A h0 s.heap.size), 0, 0) rfl
    ⟨⟨B.exec, B.bytes, hml, findClass_of_methodNamed B.named, fun w hw => hts0 w (List.mem_cons_of_mem _ hw)⟩, hV, fun q h => Or.inr h, ⟨Nat.le_refl _, Nat.le_refl _⟩, Nat.le_refl _, Nat.le_refl _⟩
    ⟨rfl, B.returns, B.notSynchronized, (name_of_methodNamed B.named B.method).1.trans hnm⟩ s.heap [] _ hP ⟨fun i j p q h1 h2 _ => by
      have z1 := (List.getElem?_eq_some_iff.mp h1).1
      have z2 := (List.getElem?_eq_some_iff.mp h2).1
      simp at z1 z2
      omega, fun k q h => by
      have z1 := (List.getElem?_eq_some_iff.mp h).1
      simp at z1
      subst z1
      cases h
      exact Or.inl rfl⟩ va_S.rf (lv_entry [.ref h0] hnb)
section
variable {p : Program} {l : Launch} {e : Env} {R : Room} {s : State} {m : MethodId} {args : Array Value} {below : List Frame} {meth : Method} {c : Code} {H1 : Heap} {locs : List Loc} {k n mc ms : Nat} {Q : State → Prop} {pc : Nat} {ls : Array Slot} {rest st0 : List Value} {a0 : Array Value} {D : va_G} {A : Nat → Prop} {ws : va_W} {q : Nat} {e0 : va_E} {Rs : (Nat → Nat → Nat) → va_W}
theorem c_call (hr : va_Run p l e R s m args below meth c H1 locs k n mc ms (F0 m pc ls st0) rest (c_Qc D q H1.size Rs a0) (c_A q H1.size)) (hS : va_S A s.heap H1 locs) (hA : ∀ q, s.heap.size ≤ q → A q) (hP1 : va_P D q_cls (ws ++ [(q, e0)]) H1) (hD1 : va_D A (ws ++ [(q, e0)]))
    (kk : ∀ (a : Nat → Nat → Nat) (H2 : Heap) (locs2 : List Loc), a 0 0 = q → va_P D q_cls (ws ++ Rs a) H2 → va_D A (ws ++ Rs a) → va_S A s.heap H2 locs2 → W p l e R s m args below meth c H2 locs2 (k + mc) (n + ms) Q (F0 m (pc + 3) ls rest)) : W p l e R s m args below meth c H1 locs k n Q (F0 m pc ls st0) := by
  intro T hT X
  obtain ⟨v, st₀, t, T', L, h0, X', hL, e1, e2, ⟨hv, ⟨a, ha0, hPa, hDa⟩, hz, hk⟩, st⟩ := hr T hT X
  cases hv
  rw [h0] at hz hk
  have hq : A q := hD1.2 ws.length (q, e0) (by simp)
  have hin : ∀ (i : Nat) (x : Nat × va_E), ws[i]? = some x → (ws ++ [(q, e0)])[i]? = some x := fun i x hx => by
    rw [List.getElem?_append_left (List.getElem?_eq_some_iff.mp hx).1]; exact hx
  have hne : ∀ (i : Nat) (x : Nat × va_E), ws[i]? = some x → x.1 < H1.size ∧ ¬ c_A q H1.size x.1 := fun i x hx => by
    have hl := (hP1 i x (hin i x hx)).lt
    refine ⟨hl, fun h => ?_⟩
    rcases h with h | h
    · have := hD1.1 i ws.length x (q, e0) (hin i x hx) (by simp) h
      have := (List.getElem?_eq_some_iff.mp hx).1
      omega
    · omega
  have hsub : ∀ z, c_A q H1.size z → A z := fun z h => by
    rcases h with h | h
    · rw [h]; exact hq
    · exact hA z (Nat.le_trans hS.1 h)
  obtain ⟨t2, a1, b1⟩ := kk a T'.heap (locs ++ L) ha0 (va_P.app (fun i x hx => (hP1 i x (hin i x hx)).kept (by rw [e1]; exact hk x.1 (hne i x hx).1 (hne i x hx).2)) (by rw [e1]; exact hPa))
    (va_D.app ⟨fun i j x y hx hy hxy => hD1.1 i j x y (hin i x hx) (hin j y hy) hxy, fun i x hx => hD1.2 i x (hin i x hx)⟩ (hDa.weaken (fun _ x _ h => hsub x.1 h)) (fun i j x y hx hy hxy => (hne i x hx).2 (by rw [hxy]; exact hDa.2 j y hy)))
    ⟨Nat.le_trans hS.1 (by rw [e1]; exact hz), fun z h1 h2 => by rw [e1, hk z (Nat.lt_of_lt_of_le h1 hS.1) (fun h => h2 (hsub z h))]; exact hS.2.1 z h1 h2, fun z hz => by
      rcases List.mem_append.mp hz with h | h
      · exact hS.2.2 z h
      · exact hsub _ (hL z h)⟩ T' rfl X'
  exact ⟨t2, st t2 a1, b1⟩
end
theorem c_iconst {D : va_G} {X : Nat → ClassId} {A : Nat → Prop} {Γ : q_C} {cc : ByteArray} {own : String} {nL d kc ks pc pc' k n : Nat} {ws : va_W} {lv : List (Nat × Value)} {st : List Value} {z : Int} {v : Int32} (B : c_B D X A Γ cc own nL d kc ks) (hd : q_dec cc pc (.iconst z) 1 pc') (hv : Int32.ofInt z = v) (K : c_G D A Γ nL ws k n pc' lv (.int v :: st)) : c_G D A Γ nL ws k n pc lv (st) := by
  obtain ⟨p, l, e, R, s, m, args, below, meth, c, Q, kc0, ks0⟩ := Γ
  obtain ⟨⟨hx, hb, hml, hown, hts⟩, hV, hA, hR, hkc, hks⟩ := B
  obtain ⟨hd, rfl⟩ := hd
  intro H locs ls hP hD hS hl
  exact lv_iconst hx hb hd hv (K H locs ls hP hD hS hl)
theorem c_bipush {D : va_G} {X : Nat → ClassId} {A : Nat → Prop} {Γ : q_C} {cc : ByteArray} {own : String} {nL d kc ks pc pc' k n : Nat} {ws : va_W} {lv : List (Nat × Value)} {st : List Value} {z : Int} {v : Int32} (B : c_B D X A Γ cc own nL d kc ks) (hd : q_dec cc pc (.bipush z) 2 pc') (hv : (Int8.ofInt z).toInt32 = v) (K : c_G D A Γ nL ws k n pc' lv (.int v :: st)) : c_G D A Γ nL ws k n pc lv (st) := by
  obtain ⟨p, l, e, R, s, m, args, below, meth, c, Q, kc0, ks0⟩ := Γ
  obtain ⟨⟨hx, hb, hml, hown, hts⟩, hV, hA, hR, hkc, hks⟩ := B
  obtain ⟨hd, rfl⟩ := hd
  intro H locs ls hP hD hS hl
  exact lv_bipush hx hb hd hv (K H locs ls hP hD hS hl)
theorem c_sipush {D : va_G} {X : Nat → ClassId} {A : Nat → Prop} {Γ : q_C} {cc : ByteArray} {own : String} {nL d kc ks pc pc' k n : Nat} {ws : va_W} {lv : List (Nat × Value)} {st : List Value} {z : Int} {v : Int32} (B : c_B D X A Γ cc own nL d kc ks) (hd : q_dec cc pc (.sipush z) 3 pc') (hv : (Int16.ofInt z).toInt32 = v) (K : c_G D A Γ nL ws k n pc' lv (.int v :: st)) : c_G D A Γ nL ws k n pc lv (st) := by
  obtain ⟨p, l, e, R, s, m, args, below, meth, c, Q, kc0, ks0⟩ := Γ
  obtain ⟨⟨hx, hb, hml, hown, hts⟩, hV, hA, hR, hkc, hks⟩ := B
  obtain ⟨hd, rfl⟩ := hd
  intro H locs ls hP hD hS hl
  exact lv_sipush hx hb hd hv (K H locs ls hP hD hS hl)
theorem c_iload_n {D : va_G} {X : Nat → ClassId} {A : Nat → Prop} {Γ : q_C} {cc : ByteArray} {own : String} {nL d kc ks pc pc' k n : Nat} {ws : va_W} {lv : List (Nat × Value)} {st : List Value} {j : Fin 4} {i : Nat} {x : Int32} (B : c_B D X A Γ cc own nL d kc ks) (hd : q_dec cc pc (.iload_n j) 1 pc') (hi : (j : Nat) = i) (hk : q_get lv i = some (.int x)) (K : c_G D A Γ nL ws k n pc' lv (.int x :: st)) : c_G D A Γ nL ws k n pc lv (st) := by
  obtain ⟨p, l, e, R, s, m, args, below, meth, c, Q, kc0, ks0⟩ := Γ
  obtain ⟨⟨hx, hb, hml, hown, hts⟩, hV, hA, hR, hkc, hks⟩ := B
  obtain ⟨hd, rfl⟩ := hd
  intro H locs ls hP hD hS hl
  exact lv_iload_n hx hb hd hi (q_has_at hl hk) (K H locs ls hP hD hS hl)
theorem c_istore_n {D : va_G} {X : Nat → ClassId} {A : Nat → Prop} {Γ : q_C} {cc : ByteArray} {own : String} {nL d kc ks pc pc' k n : Nat} {ws : va_W} {lv : List (Nat × Value)} {st : List Value} {j : Fin 4} {i : Nat} {x : Int32} (B : c_B D X A Γ cc own nL d kc ks) (hd : q_dec cc pc (.istore_n j) 1 pc') (hi : (j : Nat) = i) (hn : i < nL) (K : c_G D A Γ nL ws k n pc' (q_put lv i (.int x)) st) : c_G D A Γ nL ws k n pc lv (.int x :: st) := by
  obtain ⟨p, l, e, R, s, m, args, below, meth, c, Q, kc0, ks0⟩ := Γ
  obtain ⟨⟨hx, hb, hml, hown, hts⟩, hV, hA, hR, hkc, hks⟩ := B
  obtain ⟨hd, rfl⟩ := hd
  intro H locs ls hP hD hS hl
  exact lv_istore_n hx hb hd hi hl hn rfl (fun ls1 hl1 => K H locs ls1 hP hD hS (q_has_mono hl1 q_put_in))
theorem c_aload_n {D : va_G} {X : Nat → ClassId} {A : Nat → Prop} {Γ : q_C} {cc : ByteArray} {own : String} {nL d kc ks pc pc' k n : Nat} {ws : va_W} {lv : List (Nat × Value)} {st : List Value} {j : Fin 4} {i : Nat} {x : Nat} (B : c_B D X A Γ cc own nL d kc ks) (hd : q_dec cc pc (.aload_n j) 1 pc') (hi : (j : Nat) = i) (hk : q_get lv i = some (.ref x)) (K : c_G D A Γ nL ws k n pc' lv (.ref x :: st)) : c_G D A Γ nL ws k n pc lv (st) := by
  obtain ⟨p, l, e, R, s, m, args, below, meth, c, Q, kc0, ks0⟩ := Γ
  obtain ⟨⟨hx, hb, hml, hown, hts⟩, hV, hA, hR, hkc, hks⟩ := B
  obtain ⟨hd, rfl⟩ := hd
  intro H locs ls hP hD hS hl
  exact lv_aload_n hx hb hd hi (q_has_at hl hk) (K H locs ls hP hD hS hl)
theorem c_astore_n {D : va_G} {X : Nat → ClassId} {A : Nat → Prop} {Γ : q_C} {cc : ByteArray} {own : String} {nL d kc ks pc pc' k n : Nat} {ws : va_W} {lv : List (Nat × Value)} {st : List Value} {j : Fin 4} {i : Nat} {x : Nat} (B : c_B D X A Γ cc own nL d kc ks) (hd : q_dec cc pc (.astore_n j) 1 pc') (hi : (j : Nat) = i) (hn : i < nL) (K : c_G D A Γ nL ws k n pc' (q_put lv i (.ref x)) st) : c_G D A Γ nL ws k n pc lv (.ref x :: st) := by
  obtain ⟨p, l, e, R, s, m, args, below, meth, c, Q, kc0, ks0⟩ := Γ
  obtain ⟨⟨hx, hb, hml, hown, hts⟩, hV, hA, hR, hkc, hks⟩ := B
  obtain ⟨hd, rfl⟩ := hd
  intro H locs ls hP hD hS hl
  exact lv_astore_n hx hb hd hi hl hn rfl (fun ls1 hl1 => K H locs ls1 hP hD hS (q_has_mono hl1 q_put_in))
theorem c_iinc {D : va_G} {X : Nat → ClassId} {A : Nat → Prop} {Γ : q_C} {cc : ByteArray} {own : String} {nL d kc ks pc pc' k n : Nat} {ws : va_W} {lv : List (Nat × Value)} {st : List Value} {i : Nat} {z : Int} {x v : Int32} (B : c_B D X A Γ cc own nL d kc ks) (hd : q_dec cc pc (.iinc i z) 3 pc') (hk : q_get lv i = some (.int x)) (hv : x + Int32.ofInt z = v) (hn : i < nL) (K : c_G D A Γ nL ws k n pc' (q_put lv i (.int v)) st) : c_G D A Γ nL ws k n pc lv st := by
  obtain ⟨p, l, e, R, s, m, args, below, meth, c, Q, kc0, ks0⟩ := Γ
  obtain ⟨⟨hx, hb, hml, hown, hts⟩, hV, hA, hR, hkc, hks⟩ := B
  obtain ⟨hd, rfl⟩ := hd
  intro H locs ls hP hD hS hl
  obtain ⟨j, hj⟩ := q_get_ix hk
  exact lv_iinc hx hb hd hl hj hv hn rfl (fun ls1 hl1 => K H locs ls1 hP hD hS (q_has_mono hl1 q_put_in))
theorem c_iadd {D : va_G} {X : Nat → ClassId} {A : Nat → Prop} {Γ : q_C} {cc : ByteArray} {own : String} {nL d kc ks pc pc' k n : Nat} {ws : va_W} {lv : List (Nat × Value)} {st : List Value} {x y : Int32} (B : c_B D X A Γ cc own nL d kc ks) (hd : q_dec cc pc .iadd 1 pc') (K : c_G D A Γ nL ws k n pc' lv (.int (x + y) :: st)) : c_G D A Γ nL ws k n pc lv (.int y :: .int x :: st) := by
  obtain ⟨p, l, e, R, s, m, args, below, meth, c, Q, kc0, ks0⟩ := Γ
  obtain ⟨⟨hx, hb, hml, hown, hts⟩, hV, hA, hR, hkc, hks⟩ := B
  obtain ⟨hd, rfl⟩ := hd
  intro H locs ls hP hD hS hl
  exact lv_iadd hx hb hd (K H locs ls hP hD hS hl)
theorem c_goto {D : va_G} {X : Nat → ClassId} {A : Nat → Prop} {Γ : q_C} {cc : ByteArray} {own : String} {nL d kc ks pc pc' k n : Nat} {ws : va_W} {lv : List (Nat × Value)} {st : List Value} {off : Int} {tgt : Nat} (B : c_B D X A Γ cc own nL d kc ks) (hd : q_dec cc pc (.goto off) 3 pc') (ht : (pc : Int) + off = (tgt : Int)) (K : c_G D A Γ nL ws k n tgt lv st) : c_G D A Γ nL ws k n pc lv st := by
  obtain ⟨p, l, e, R, s, m, args, below, meth, c, Q, kc0, ks0⟩ := Γ
  obtain ⟨⟨hx, hb, hml, hown, hts⟩, hV, hA, hR, hkc, hks⟩ := B
  obtain ⟨hd, rfl⟩ := hd
  intro H locs ls hP hD hS hl
  exact lv_goto hx hb hd ht (K H locs ls hP hD hS hl)
theorem c_icmp_geT {D : va_G} {X : Nat → ClassId} {A : Nat → Prop} {Γ : q_C} {cc : ByteArray} {own : String} {nL d kc ks pc pc' k n : Nat} {ws : va_W} {lv : List (Nat × Value)} {st : List Value} {off : Int} {tgt : Nat} {x y : Int32} (B : c_B D X A Γ cc own nL d kc ks) (hd : q_dec cc pc (.if_icmp .ge off) 3 pc') (ht : (pc : Int) + off = (tgt : Int)) (h : y ≤ x) (K : c_G D A Γ nL ws k n tgt lv st) : c_G D A Γ nL ws k n pc lv (.int y :: .int x :: st) := by
  obtain ⟨p, l, e, R, s, m, args, below, meth, c, Q, kc0, ks0⟩ := Γ
  obtain ⟨⟨hx, hb, hml, hown, hts⟩, hV, hA, hR, hkc, hks⟩ := B
  obtain ⟨hd, rfl⟩ := hd
  intro H locs ls hP hD hS hl
  exact lv_icmp_ge hx hb hd ht (fun _ => K H locs ls hP hD hS hl) (fun q => absurd h q)
theorem c_icmp_geF {D : va_G} {X : Nat → ClassId} {A : Nat → Prop} {Γ : q_C} {cc : ByteArray} {own : String} {nL d kc ks pc pc' k n : Nat} {ws : va_W} {lv : List (Nat × Value)} {st : List Value} {off : Int} {tgt : Nat} {x y : Int32} (B : c_B D X A Γ cc own nL d kc ks) (hd : q_dec cc pc (.if_icmp .ge off) 3 pc') (ht : (pc : Int) + off = (tgt : Int)) (h : ¬ y ≤ x) (K : c_G D A Γ nL ws k n pc' lv st) : c_G D A Γ nL ws k n pc lv (.int y :: .int x :: st) := by
  obtain ⟨p, l, e, R, s, m, args, below, meth, c, Q, kc0, ks0⟩ := Γ
  obtain ⟨⟨hx, hb, hml, hown, hts⟩, hV, hA, hR, hkc, hks⟩ := B
  obtain ⟨hd, rfl⟩ := hd
  intro H locs ls hP hD hS hl
  exact lv_icmp_ge hx hb hd ht (fun q => absurd q h) (fun _ => K H locs ls hP hD hS hl)
theorem c_objInit {D : va_G} {X : Nat → ClassId} {A : Nat → Prop} {Γ : q_C} {cc : ByteArray} {own : String} {nL d kc ks pc pc' k n : Nat} {ws : va_W} {lv : List (Nat × Value)} {idx a : Nat} (B : c_B D X A Γ cc own nL d kc ks) (hd : q_dec cc pc (.invokespecial idx) 3 pc') (hlink : Cond.methodLink own idx Lib.objectInit ∈ q_tbl) (hinst : Cond.instanceMethod Lib.objectInit ∈ q_tbl) (hcode : Cond.code Lib.objectInit ⟨#[0xb1]⟩ 1 none ∈ q_tbl) (hd1 : 1 ≤ d) (K : c_G D A Γ nL ws k n pc' lv []) : c_G D A Γ nL ws k n pc lv [.ref a] := by
  obtain ⟨p, l, e, R, s, m, args, below, meth, c, Q, kc0, ks0⟩ := Γ
  obtain ⟨⟨hx, hb, hml, hown, hts⟩, hV, hA, hR, hkc, hks⟩ := B
  obtain ⟨hd, rfl⟩ := hd
  intro H locs ls hP hD hS hl
  exact W.objInit (rest := []) hx hb hown (hts _ hlink) (hts _ hinst) (hts _ hcode) rfl (by rw [hml]; exact hl.1) rfl hd (by omega) (by show 2 * 0 + 0 + 12 ≤ _; omega) (K H locs ls hP hD hS hl)
theorem c_new {D : va_G} {X : Nat → ClassId} {A : Nat → Prop} {Γ : q_C} {cc : ByteArray} {own : String} {nL d kc ks pc pc' k n : Nat} {ws : va_W} {lv : List (Nat × Value)} {st : List Value} {i1 i2 pc1 pc2 N ci nb d' mc ms : Nat} {C : String} {T : u_T} {ty : Nat → FieldType} {fs : List Value} {y : MethodName} {cb : ByteArray} {Rs : (Nat → Nat → Nat) → va_W} (B : c_B D X A Γ cc own nL d kc ks) (hd : q_dec cc pc (.new i1) 3 pc1) (hd2 : q_dec cc pc1 .dup 1 pc2) (hd3 : q_dec cc pc2 (.invokespecial i2) 3 pc') (hin : ∀ w ∈ u_ws C T N, w ∈ q_tbl) (hty : ∀ k, k < N → parseFieldDescriptor (T k).2.2.1 = some (ty k)) (hcl : Cond.classLink own i1 C ∈ q_tbl) (hinst : Cond.instantiable C N ∈ q_tbl) (hiniC : Cond.initialized C ∈ q_tbl) (hc : q_cls[ci]? = some (C, T, N)) (hfs : ∀ j, j < N → defaultValue (ty j) = vp_V fs j)
    (M : c_M D X Γ.2.1 y cb nb d' mc ms ci fs Rs) (hcode : Cond.code y cb nb none ∈ q_tbl) (him : Cond.instanceMethod y ∈ q_tbl) (hini : Cond.initialized y.cls ∈ q_tbl) (hnm : y.name = "<init>") (hds : q_des y 0) (hlink : Cond.methodLink own i2 y ∈ q_tbl) (hrm : (st.map fun v => v.category).sum ≤ 6) (hdd : d' + 1 ≤ d) (hnb : nb ≤ 45) (hk : k + 1 + mc ≤ kc) (hn : n + N + ms ≤ ks)
    (K : ∀ (q : Nat) (a : Nat → Nat → Nat), a 0 0 = q → c_G D A Γ nL (ws ++ Rs a) (k + 1 + mc) (n + N + ms) pc' lv (.ref q :: st)) : c_G D A Γ nL ws k n pc lv st := by
  obtain ⟨p, l, e, R, s, m, args, below, meth, c, Q, kc0, ks0⟩ := Γ
  obtain ⟨⟨hx, hb, hml, hown, hts⟩, hV, hA, hR, hkc, hks⟩ := B
  obtain ⟨hd, rfl⟩ := hd
  intro H locs ls hP hD hS hl
  obtain ⟨hd2, rfl⟩ := hd2
  obtain ⟨hd3, rfl⟩ := hd3
  refine va_new (fs := fs) hx hb hts hin ty hty hown (hts _ hcl) (hts _ hinst) (hts _ hiniC) hV.1 hP hD hS hA hc hfs (by omega) (by omega) hd (fun q H1 hP1 hD1 hS1 => ?_)
  refine lv_dup hx hb hd2 rfl ?_
  have hone : va_P D q_cls [(q, .inr (ci, fs))] H1 := fun i x hx => by
    have hz : i < 1 := (List.getElem?_eq_some_iff.mp hx).1
    rw [show i = 0 by omega] at hx
    cases hx
    exact hP1 ws.length _ (by simp)
  have hr := va_runI (l := l) (e := e) (below := below) (meth := meth) (locs := locs) (R := R) (H := H1) (cells := k + 1) (slots := n + N) (As := []) (rest := .ref q :: st) (g := F0 m (pc + 3 + 1) ls (.ref q :: .ref q :: st)) ⟨hx, hb, hml, hown, hts⟩ (M q H1.size) ⟨callB_of 0 hts (q_good y cb nb none hcode) rfl rfl rfl (hts _ hini) (hts _ hlink) hds ⟨by show d' + 1 ≤ _; omega, by show 8 + (nb + 11) + 64 * d' ≤ _; omega⟩, hnm, hts _ him⟩ ⟨fun a U g mk z => ⟨z.1, z.2.1, z.2.2.1.calling, z.2.2.2⟩, fun U hU hW => ⟨rfl, by rw [hU], hV.warm hW, by rw [hU]; exact hone⟩⟩ rfl rfl hl.1 rfl (lv_room (by rw [List.map_cons, List.sum_cons]; show 1 + _ ≤ 8; omega)) hd3 ⟨by omega, by omega⟩
  exact c_call hr hS1 hA hP1 hD1 (fun a H2 locs2 ha hP2 hD2 hS2 => K q a ha H2 locs2 ls hP2 hD2 hS2 hl)
theorem c_newN {D : va_G} {X : Nat → ClassId} {A : Nat → Prop} {Γ : q_C} {cc : ByteArray} {own : String} {nL d kc ks pc pc' k n : Nat} {ws : va_W} {lv : List (Nat × Value)} {st : List Value} {i1 i2 pc1 pc2 N ci nb d' mc ms : Nat} {C : String} {T : u_T} {ty : Nat → FieldType} {fs : List Value} {y : MethodName} {cb : ByteArray} {Rs : (Nat → Nat → Nat) → va_W} {host : String} (B : c_B D X A Γ cc own nL d kc ks) (hd : q_dec cc pc (.new i1) 3 pc1) (hd2 : q_dec cc pc1 .dup 1 pc2) (hd3 : q_dec cc pc2 (.invokespecial i2) 3 pc') (hin : ∀ w ∈ u_ws C T N, w ∈ q_tbl) (hty : ∀ k, k < N → parseFieldDescriptor (T k).2.2.1 = some (ty k)) (hcl : Cond.classLink own i1 C ∈ q_tbl) (hinst : Cond.instantiable C N ∈ q_tbl) (hiniC : Cond.initialized C ∈ q_tbl) (hc : q_cls[ci]? = some (C, T, N)) (hfs : ∀ j, j < N → defaultValue (ty j) = vp_V fs j)
    (M : c_M D X Γ.2.1 y cb nb d' mc ms ci fs Rs) (hcode : Cond.code y cb nb none ∈ q_tbl) (him : Cond.instanceMethod y ∈ q_tbl) (hini : Cond.initialized y.cls ∈ q_tbl) (hnm : y.name = "<init>") (hds : q_des y 0) (hlink : Cond.methodLinkNest own i2 y host ∈ q_nst) (hrm : (st.map fun v => v.category).sum ≤ 6) (hdd : d' + 1 ≤ d) (hnb : nb ≤ 45) (hk : k + 1 + mc ≤ kc) (hn : n + N + ms ≤ ks)
    (K : ∀ (q : Nat) (a : Nat → Nat → Nat), a 0 0 = q → c_G D A Γ nL (ws ++ Rs a) (k + 1 + mc) (n + N + ms) pc' lv (.ref q :: st)) : c_G D A Γ nL ws k n pc lv st := by
  obtain ⟨p, l, e, R, s, m, args, below, meth, c, Q, kc0, ks0⟩ := Γ
  obtain ⟨⟨hx, hb, hml, hown, hts⟩, hV, hA, hR, hkc, hks⟩ := B
  obtain ⟨hd, rfl⟩ := hd
  intro H locs ls hP hD hS hl
  obtain ⟨hd2, rfl⟩ := hd2
  obtain ⟨hd3, rfl⟩ := hd3
  refine va_new (fs := fs) hx hb hts hin ty hty hown (hts _ hcl) (hts _ hinst) (hts _ hiniC) hV.1 hP hD hS hA hc hfs (by omega) (by omega) hd (fun q H1 hP1 hD1 hS1 => ?_)
  refine lv_dup hx hb hd2 rfl ?_
  have hone : va_P D q_cls [(q, .inr (ci, fs))] H1 := fun i x hx => by
    have hz : i < 1 := (List.getElem?_eq_some_iff.mp hx).1
    rw [show i = 0 by omega] at hx
    cases hx
    exact hP1 ws.length _ (by simp)
  have hr := va_runIN (l := l) (e := e) (below := below) (meth := meth) (locs := locs) (R := R) (H := H1) (cells := k + 1) (slots := n + N) (As := []) (rest := .ref q :: st) (g := F0 m (pc + 3 + 1) ls (.ref q :: .ref q :: st)) ⟨hx, hb, hml, hown, hts⟩ (M q H1.size) ⟨va_cnB 0 hts (q_good y cb nb none hcode) rfl rfl rfl (hV.2.1 _ hlink) (hts _ hini) hds ⟨by show d' + 1 ≤ _; omega, by show 8 + (nb + 11) + 64 * d' ≤ _; omega⟩, hnm, hts _ him⟩ ⟨fun a U g mk z => ⟨z.1, z.2.1, z.2.2.1.calling, z.2.2.2⟩, fun U hU hW => ⟨rfl, by rw [hU], hV.warm hW, by rw [hU]; exact hone⟩⟩ rfl rfl hl.1 rfl (lv_room (by rw [List.map_cons, List.sum_cons]; show 1 + _ ≤ 8; omega)) hd3 ⟨by omega, by omega⟩
  exact c_call hr hS1 hA hP1 hD1 (fun a H2 locs2 ha hP2 hD2 hS2 => K q a ha H2 locs2 ls hP2 hD2 hS2 hl)
theorem c_newa {D : va_G} {X : Nat → ClassId} {A : Nat → Prop} {Γ : q_C} {cc : ByteArray} {own : String} {nL d kc ks pc pc' k n : Nat} {ws : va_W} {lv : List (Nat × Value)} {st : List Value} {at0 : ArrayType} {ty : FieldType} {t N : Nat} {z : Int32} {a0 : vp_A} (B : c_B D X A Γ cc own nL d kc ks) (hd : q_dec cc pc (.newarray at0) 2 pc') (harr : Cond.arrayClass ty ∈ q_tbl) (hty : newarray.typeOf at0 = ty) (ht : (q_tys X)[t]? = some (X t, ty)) (ha : ∀ cA : ClassId, vp_cell cA a0 = arrV cA N (fun _ => defaultValue ty)) (hz : ¬ z < 0) (hN : z.toNatClampNeg = N) (hby : N * componentBytes ty ≤ 536870912) (hk : k + 1 ≤ kc) (hn : n + N ≤ ks)
    (K : ∀ q : Nat, c_G D A Γ nL (ws ++ [(q, .inl (X t, a0))]) (k + 1) (n + N) pc' lv (.ref q :: st)) : c_G D A Γ nL ws k n pc lv (.int z :: st) := by
  obtain ⟨p, l, e, R, s, m, args, below, meth, c, Q, kc0, ks0⟩ := Γ
  obtain ⟨⟨hx, hb, hml, hown, hts⟩, hV, hA, hR, hkc, hks⟩ := B
  obtain ⟨hd, rfl⟩ := hd
  intro H locs ls hP hD hS hl
  refine va_newa hx hb (by rw [hty]; exact hts _ harr) hty hV.1 hP hD hS hA ha hz hN hby (by omega) (by omega) hd (fun q cA H1 hK1 hP1 hD1 hS1 => ?_)
  have e1 : cA = X t := c_same (hK1.2 (q_tys X).length (cA, ty) (by simp)).2 (hV.1.2 t _ ht).2
  subst e1
  exact K q H1 locs ls hP1 hD1 hS1 hl
theorem c_newq {D : va_G} {X : Nat → ClassId} {A : Nat → Prop} {Γ : q_C} {cc : ByteArray} {own : String} {nL d kc ks pc pc' k n : Nat} {ws : va_W} {lv : List (Nat × Value)} {st : List Value} {idx t N : Nat} {C : String} {z : Int32} (B : c_B D X A Γ cc own nL d kc ks) (hd : q_dec cc pc (.anewarray idx) 3 pc') (hcl : Cond.classLink own idx C ∈ q_tbl) (hover : ∀ U, c_V D X U → va_AO C U) (ht : (q_tys X)[t]? = some (X t, .object C)) (hz : ¬ z < 0) (hN : z.toNatClampNeg = N) (hby : N * 4 ≤ 536870912) (hk : k + 1 ≤ kc) (hn : n + N ≤ ks)
    (K : ∀ q : Nat, c_G D A Γ nL (ws ++ [(q, .inl (X t, N, .inr (.inr (.inr (.inr (fun _ => none))))))]) (k + 1) (n + N) pc' lv (.ref q :: st)) : c_G D A Γ nL ws k n pc lv (.int z :: st) := by
  obtain ⟨p, l, e, R, s, m, args, below, meth, c, Q, kc0, ks0⟩ := Γ
  obtain ⟨⟨hx, hb, hml, hown, hts⟩, hV, hA, hR, hkc, hks⟩ := B
  obtain ⟨hd, rfl⟩ := hd
  intro H locs ls hP hD hS hl
  refine va_newq hx hb hown (hts _ hcl) (hover _ hV) hV.1 hP hD hS hA hz hN hby (by omega) (by omega) hd (fun q cA H1 hK1 hP1 hD1 hS1 => ?_)
  have e1 : cA = X t := c_same (hK1.2 (q_tys X).length (cA, .object C) (by simp)).2 (hV.1.2 t _ ht).2
  subst e1
  exact K q H1 locs ls hP1 hD1 hS1 hl
theorem c_putF {D : va_G} {X : Nat → ClassId} {A : Nat → Prop} {Γ : q_C} {cc : ByteArray} {own : String} {nL d kc ks pc pc' k n : Nat} {ws : va_W} {lv : List (Nat × Value)} {st : List Value} {idx f N ci h0 mc ms : Nat} {C : String} {T : u_T} {ty0 : Nat → FieldType} {ty : FieldType} {fs fs' : List Value} {w : va_W} {v : Value} {Rs : (Nat → Nat → Nat) → va_W} (B : c_B D X A Γ cc own nL d kc ks) (En : c_E D Γ h0 mc ms Rs) (hd : q_dec cc pc (.putfield idx) 3 pc') (hin : ∀ w ∈ u_ws C T N, w ∈ q_tbl) (hc : q_cls[ci]? = some (C, T, N)) (hty : ∀ k, k < N → parseFieldDescriptor (T k).2.2.1 = some (ty0 k)) (hnm : ∀ a, a < N → ∀ b, b < N → a ≠ b → (T a).2.1 ≠ (T b).2.1) (hf : f < N) (hlink : Cond.fieldLink own idx C (T f).2.1 (T f).2.2.1 ∈ q_tbl) (hr : (T f).1 = C) (hro : own = C) (hfin : (T f).2.2.2 = true) (ht : ty0 f = ty) (hnr : narrow ty v = v) (hfit : fits ty v = true) (hl0 : f < fs.length) (he : ws = (h0, .inr (ci, fs)) :: w) (hs : fs.set f v = fs')
    (K : c_G D A Γ nL ((h0, .inr (ci, fs')) :: w) k n pc' lv st) : c_G D A Γ nL ws k n pc lv (v :: .ref h0 :: st) := by
  subst he
  subst hs
  obtain ⟨p, l, e, R, s, m, args, below, meth, c, Q, kc0, ks0⟩ := Γ
  obtain ⟨⟨hx, hb, hml, hown, hts⟩, hV, hA, hR, hkc, hks⟩ := B
  obtain ⟨hd, rfl⟩ := hd
  obtain ⟨-, -, -, hin2⟩ := En
  intro H locs ls hP hD hS hl
  exact va_putF (ref := C) hx hb hts hin ty0 hty hnm hown hV.1 hP hD hS 0 rfl hc f hf (hts _ hlink) (fun x h => by rw [← hr]; exact h) hfin hin2 (by rw [hr, hro]) (by rw [hty f hf, ht]) hnr hfit hl0 hd (fun H1 locs1 hP1 hD1 hS1 => K H1 locs1 ls hP1 hD1 hS1 hl)
theorem c_putI {D : va_G} {X : Nat → ClassId} {A : Nat → Prop} {Γ : q_C} {cc : ByteArray} {own : String} {nL d kc ks pc pc' k n : Nat} {ws : va_W} {lv : List (Nat × Value)} {st : List Value} {idx f N ci h0 mc ms : Nat} {C : String} {T : u_T} {ty0 : Nat → FieldType} {ty : FieldType} {fs fs' : List Value} {w : va_W} {v : Value} {Rs : (Nat → Nat → Nat) → va_W} (B : c_B D X A Γ cc own nL d kc ks) (En : c_E D Γ h0 mc ms Rs) (hd : q_dec cc pc (.putfield idx) 3 pc') (hin : ∀ w ∈ u_ws C T N, w ∈ q_tbl) (hc : q_cls[ci]? = some (C, T, N)) (hty : ∀ k, k < N → parseFieldDescriptor (T k).2.2.1 = some (ty0 k)) (hnm : ∀ a, a < N → ∀ b, b < N → a ≠ b → (T a).2.1 ≠ (T b).2.1) (hf : f < N) (hlink : Cond.fieldLink own idx C (T f).2.1 (T f).2.2.1 ∈ q_tbl) (hr : (T f).1 = C) (hro : own = C) (hfin : (T f).2.2.2 = false) (ht : ty0 f = ty) (hnr : narrow ty v = v) (hfit : fits ty v = true) (hl0 : f < fs.length) (he : ws = (h0, .inr (ci, fs)) :: w) (hs : fs.set f v = fs')
    (K : c_G D A Γ nL ((h0, .inr (ci, fs')) :: w) k n pc' lv st) : c_G D A Γ nL ws k n pc lv (v :: .ref h0 :: st) := by
  subst he
  subst hs
  obtain ⟨p, l, e, R, s, m, args, below, meth, c, Q, kc0, ks0⟩ := Γ
  obtain ⟨⟨hx, hb, hml, hown, hts⟩, hV, hA, hR, hkc, hks⟩ := B
  obtain ⟨hd, rfl⟩ := hd
  obtain ⟨-, -, -, hin2⟩ := En
  intro H locs ls hP hD hS hl
  exact va_put (ref := C) hx hb hts hin ty0 hty hnm hown hV.1 hP hD hS 0 rfl hc f hf (hts _ hlink) (fun x h => by rw [← hr]; exact h) hfin (by rw [hty f hf, ht]) hnr hfit hl0 hd (fun H1 locs1 hP1 hD1 hS1 => K H1 locs1 ls hP1 hD1 hS1 hl)
theorem c_get0 {D : va_G} {X : Nat → ClassId} {A : Nat → Prop} {Γ : q_C} {cc : ByteArray} {own : String} {nL d kc ks pc pc' k n : Nat} {ws : va_W} {lv : List (Nat × Value)} {st : List Value} {idx f N ci h0 : Nat} {C : String} {T : u_T} {fs : List Value} {w : va_W} {v : Value} (B : c_B D X A Γ cc own nL d kc ks) (hd : q_dec cc pc (.getfield idx) 3 pc') (hin : ∀ w ∈ u_ws C T N, w ∈ q_tbl) (hc : q_cls[ci]? = some (C, T, N)) (hf : f < N) (hlink : Cond.fieldLink own idx C (T f).2.1 (T f).2.2.1 ∈ q_tbl) (hr : (T f).1 = C) (he : ws = (h0, .inr (ci, fs)) :: w) (hv : fs[f]? = some v) (K : c_G D A Γ nL ws k n pc' lv (v :: st)) : c_G D A Γ nL ws k n pc lv (.ref h0 :: st) := by
  subst he
  obtain ⟨p, l, e, R, s, m, args, below, meth, c, Q, kc0, ks0⟩ := Γ
  obtain ⟨⟨hx, hb, hml, hown, hts⟩, hV, hA, hR, hkc, hks⟩ := B
  obtain ⟨hd, rfl⟩ := hd
  intro H locs ls hP hD hS hl
  exact va_get (ref := C) hx hb hts hin hown hV.1 hP 0 rfl hc f hf (hts _ hlink) (fun x h => by rw [← hr]; exact h) hv hd (K H locs ls hP hD hS hl)
theorem c_aast {D : va_G} {X : Nat → ClassId} {A : Nat → Prop} {Γ : q_C} {cc : ByteArray} {own : String} {nL d kc ks pc pc' k n : Nat} {ws : va_W} {lv : List (Nat × Value)} {st : List Value} {q0 qk ci t N v a : Nat} {r : vw_C} {vs : List Value} {f : Nat → Option Nat} {ws' : va_W} {i : Int32} (B : c_B D X A Γ cc own nL d kc ks) (hd : q_dec cc pc .aastore 1 pc') (ha : ws[q0]? = some (a, .inl (X t, N, .inr (.inr (.inr (.inr f)))))) (ht : (q_tys X)[t]? = some (X t, .object r.1)) (hv : ws[qk]? = some (v, .inr (ci, vs))) (hc : q_cls[ci]? = some r) (hi : ¬ (i < 0 ∨ N ≤ i.toNatClampNeg)) (hs : ws.set q0 (a, .inl (X t, N, .inr (.inr (.inr (.inr (va_up f i.toNatClampNeg (some v))))))) = ws')
    (K : c_G D A Γ nL ws' k n pc' lv st) : c_G D A Γ nL ws k n pc lv (.ref v :: .int i :: .ref a :: st) := by
  subst hs
  obtain ⟨p, l, e, R, s, m, args, below, meth, c, Q, kc0, ks0⟩ := Γ
  obtain ⟨⟨hx, hb, hml, hown, hts⟩, hV, hA, hR, hkc, hks⟩ := B
  obtain ⟨hd, rfl⟩ := hd
  intro H locs ls hP hD hS hl
  exact va_astq hx hb hV.1 hP hD hS q0 t qk ci ha ht hv hc hi hd (fun H1 locs1 hP1 hD1 hS1 => K H1 locs1 ls hP1 hD1 hS1 hl)
theorem c_iast {D : va_G} {X : Nat → ClassId} {A : Nat → Prop} {Γ : q_C} {cc : ByteArray} {own : String} {nL d kc ks pc pc' k n : Nat} {ws : va_W} {lv : List (Nat × Value)} {st : List Value} {q0 N a : Nat} {f : Nat → Int32} {ws' : va_W} {i x : Int32} (B : c_B D X A Γ cc own nL d kc ks) (hd : q_dec cc pc .iastore 1 pc') (ha : ws[q0]? = some (a, .inl (X 0, N, .inl f))) (hi : ¬ (i < 0 ∨ N ≤ i.toNatClampNeg)) (hs : ws.set q0 (a, .inl (X 0, N, .inl (upd f i.toNatClampNeg x))) = ws')
    (K : c_G D A Γ nL ws' k n pc' lv st) : c_G D A Γ nL ws k n pc lv (.int x :: .int i :: .ref a :: st) := by
  subst hs
  obtain ⟨p, l, e, R, s, m, args, below, meth, c, Q, kc0, ks0⟩ := Γ
  obtain ⟨⟨hx, hb, hml, hown, hts⟩, hV, hA, hR, hkc, hks⟩ := B
  obtain ⟨hd, rfl⟩ := hd
  intro H locs ls hP hD hS hl
  exact va_iast hx hb hV.1 hP hD hS q0 0 ha rfl hi hd (fun H1 locs1 hP1 hD1 hS1 => K H1 locs1 ls hP1 hD1 hS1 hl)
theorem c_arr {D : va_G} {ws : va_W} {H : Heap} {i a cA n : Nat} {f f' : Nat → Option Nat} (h : va_P D q_cls ws H) (hi : ws[i]? = some (a, .inl (cA, n, .inr (.inr (.inr (.inr f)))))) (he : ∀ j, j < n → f j = f' j) : va_P D q_cls (ws.set i (a, .inl (cA, n, .inr (.inr (.inr (.inr f')))))) H := by
  intro k x hx
  by_cases hk : k = i
  · subst hk
    rw [List.getElem?_set_self (List.getElem?_eq_some_iff.mp hi).1] at hx
    cases hx
    have h1 : H[a]? = some (vp_cell cA (n, .inr (.inr (.inr (.inr f))))) := h k _ hi
    show H[a]? = some (vp_cell cA (n, .inr (.inr (.inr (.inr f')))))
    rw [h1, vp_cell_q, vp_cell_q]
    congr 1
    unfold arrV
    congr 2
    funext j
    show va_rf (f j.val) = va_rf (f' j.val)
    rw [he j.val j.isLt]
  · rw [List.getElem?_set_ne (fun q => hk q.symm)] at hx
    exact h k x hx
theorem c_arrD {A : Nat → Prop} {ws : va_W} {i a : Nat} {e e' : va_E} (h : va_D A ws) (hi : ws[i]? = some (a, e)) : va_D A (ws.set i (a, e')) := h.set hi
theorem c_vret {D : va_G} {X : Nat → ClassId} {Γ : q_C} {cc : ByteArray} {own : String} {nL d kc ks pc pc' k n : Nat} {ws : va_W} {lv : List (Nat × Value)} {h0 mc ms : Nat} {Rs : (Nat → Nat → Nat) → va_W} (B : c_B D X (c_A h0 (c_sz Γ)) Γ cc own nL d kc ks) (En : c_E D Γ h0 mc ms Rs) (hd : q_dec cc pc .return_ 1 pc') (a : Nat → Nat → Nat) (ha : a 0 0 = h0) (hP0 : ∀ H, va_P D q_cls ws H → va_P D q_cls (Rs a) H) (hD0 : va_D (c_A h0 (c_sz Γ)) ws → va_D (c_A h0 (c_sz Γ)) (Rs a)) (hk : k = mc) (hn : n = ms) : c_G D (c_A h0 (c_sz Γ)) Γ nL ws k n pc lv [] := by
  subst hk
  subst hn
  obtain ⟨p, l, e, R, s, m, args, below, meth, c, Q, kc0, ks0⟩ := Γ
  obtain ⟨⟨hx, hb, hml, hown, hts⟩, hV, hA, hR, hkc, hks⟩ := B
  obtain ⟨hd, rfl⟩ := hd
  obtain ⟨hQ, hr, hlk, -⟩ := En
  intro H locs ls hP hD hS hl
  subst hQ
  exact W.vret hx hb hr (fun t ht hW => ⟨rfl, ⟨a, ha, by rw [ht]; exact hP0 H hP, hD0 hD⟩, hS.F ht⟩) hS.2.2 hd hlk
