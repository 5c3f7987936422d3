theorem x_in9 : Cond.instantiable "WaterOthers" 9 ∈ q_tbl := q_mem 17 (by decide +kernel) (by decide +kernel)
theorem x_it9 : Cond.initialized "WaterOthers" ∈ q_tbl := q_mem 1 (by decide +kernel) (by decide +kernel)
theorem x_co9 : Cond.code y_X9_init prog_1_method_1_code 2 none ∈ q_tbl := q_mem 20 (by decide +kernel) (by decide +kernel)
theorem x_im9 : Cond.instanceMethod y_X9_init ∈ q_tbl := q_mem 19 (by decide +kernel) (by decide +kernel)
theorem x_in10 : Cond.instantiable "WaterOthersModel" 22 ∈ q_tbl := q_mem 680 (by decide +kernel) (by decide +kernel)
theorem x_it10 : Cond.initialized "WaterOthersModel" ∈ q_tbl := q_mem 11 (by decide +kernel) (by decide +kernel)
theorem x_co10 : Cond.code y_X10_init prog_12_method_1_code 2 none ∈ q_tbl := q_mem 683 (by decide +kernel) (by decide +kernel)
theorem x_im10 : Cond.instanceMethod y_X10_init ∈ q_tbl := q_mem 682 (by decide +kernel) (by decide +kernel)
theorem x_cl9 : Cond.classLink "WaterOthersLaw" 7 "WaterOthers" ∈ q_tbl := q_mem 16 (by decide +kernel) (by decide +kernel)
theorem x_ln9 : Cond.methodLink "WaterOthersLaw" 9 y_X9_init ∈ q_tbl := q_mem 18 (by decide +kernel) (by decide +kernel)
theorem x_cl10 : Cond.classLink "WaterOthersLaw" 10 "WaterOthersModel" ∈ q_tbl := q_mem 679 (by decide +kernel) (by decide +kernel)
theorem x_ln10 : Cond.methodLink "WaterOthersLaw" 12 y_X10_init ∈ q_tbl := q_mem 681 (by decide +kernel) (by decide +kernel)
theorem x_in0 : Cond.instantiable "WaterOthers$ArchQueue" 5 ∈ q_tbl := q_mem 202 (by decide +kernel) (by decide +kernel)
theorem x_in1 : Cond.instantiable "WaterOthers$CalmRows" 1 ∈ q_tbl := q_mem 244 (by decide +kernel) (by decide +kernel)
theorem x_in2 : Cond.instantiable "WaterOthers$Pad" 2 ∈ q_tbl := q_mem 25 (by decide +kernel) (by decide +kernel)
theorem x_in3 : Cond.instantiable "WaterOthers$Reach" 6 ∈ q_tbl := q_mem 42 (by decide +kernel) (by decide +kernel)
theorem x_in4 : Cond.instantiable "WaterOthers$Ring" 3 ∈ q_tbl := q_mem 226 (by decide +kernel) (by decide +kernel)
theorem x_in5 : Cond.instantiable "WaterOthers$Sights" 3 ∈ q_tbl := q_mem 50 (by decide +kernel) (by decide +kernel)
theorem x_in6 : Cond.instantiable "WaterOthers$Telling" 8 ∈ q_tbl := q_mem 135 (by decide +kernel) (by decide +kernel)
theorem x_in7 : Cond.instantiable "WaterOthers$TripFinder" 5 ∈ q_tbl := q_mem 177 (by decide +kernel) (by decide +kernel)
theorem x_in8 : Cond.instantiable "WaterOthers$Walker" 6 ∈ q_tbl := q_mem 70 (by decide +kernel) (by decide +kernel)
theorem x_kn {s : State} {args : Array Value} (hts : ∀ w ∈ q_tbl, w.before args s = true) : ∃ D : va_G, ∀ (c : Nat) (q : vw_C), q_cls[c]? = some q → u_Kn s q.1 q.2.1 q.2.2 (D.1 c) (D.2 c) := by
  obtain ⟨c0, i0, h0⟩ := u_known (C := q_R0) (T := q_T0) (N := 5) hts q_in0 (hts _ x_in0)
  obtain ⟨c1, i1, h1⟩ := u_known (C := q_R1) (T := q_T1) (N := 1) hts q_in1 (hts _ x_in1)
  obtain ⟨c2, i2, h2⟩ := u_known (C := q_R2) (T := q_T2) (N := 2) hts q_in2 (hts _ x_in2)
  obtain ⟨c3, i3, h3⟩ := u_known (C := q_R3) (T := q_T3) (N := 6) hts q_in3 (hts _ x_in3)
  obtain ⟨c4, i4, h4⟩ := u_known (C := q_R4) (T := q_T4) (N := 3) hts q_in4 (hts _ x_in4)
  obtain ⟨c5, i5, h5⟩ := u_known (C := q_R5) (T := q_T5) (N := 3) hts q_in5 (hts _ x_in5)
  obtain ⟨c6, i6, h6⟩ := u_known (C := q_R6) (T := q_T6) (N := 8) hts q_in6 (hts _ x_in6)
  obtain ⟨c7, i7, h7⟩ := u_known (C := q_R7) (T := q_T7) (N := 5) hts q_in7 (hts _ x_in7)
  obtain ⟨c8, i8, h8⟩ := u_known (C := q_R8) (T := q_T8) (N := 6) hts q_in8 (hts _ x_in8)
  obtain ⟨c9, i9, h9⟩ := u_known (C := q_R9) (T := q_T9) (N := 9) hts q_in9 (hts _ x_in9)
  obtain ⟨c10, i10, h10⟩ := u_known (C := q_R10) (T := q_T10) (N := 22) hts q_in10 (hts _ x_in10)
  refine ⟨(fun k => [c0, c1, c2, c3, c4, c5, c6, c7, c8, c9, c10].getD k c0, fun k => [i0, i1, i2, i3, i4, i5, i6, i7, i8, i9, i10].getD k i0), ?_⟩
  intro c q hq
  match c, hq with
  | 0, hq => cases hq; exact h0
  | 1, hq => cases hq; exact h1
  | 2, hq => cases hq; exact h2
  | 3, hq => cases hq; exact h3
  | 4, hq => cases hq; exact h4
  | 5, hq => cases hq; exact h5
  | 6, hq => cases hq; exact h6
  | 7, hq => cases hq; exact h7
  | 8, hq => cases hq; exact h8
  | 9, hq => cases hq; exact h9
  | 10, hq => cases hq; exact h10
  | c + 11, hq => simp [q_cls] at hq
theorem x_ar {s : State} {args : Array Value} {ty : FieldType} (h : (Cond.arrayClass ty).before args s = true) (hp : ∀ C, ty ≠ .object C) : ∃ cA : ClassId, ArrOfT s cA ty ∧ va_RA s cA ty := by
  obtain ⟨c, k, comp, h1, h2, h3⟩ := Cond.arrayClass_spec h
  refine ⟨c, fun n z => ⟨fun k h => (by cases h), k, h2, comp, h3⟩, ?_⟩
  cases ty with
  | object C => exact absurd rfl (hp C)
  | _ => exact h1
theorem x_ao {s : State} {args : Array Value} {C : String} (h : (Cond.arrayOver (.object C)).before args s = true) : ∃ cA : ClassId, ArrOfT s cA (.object C) ∧ va_RA s cA (.object C) := by
  obtain ⟨comp, c, k, h1, h2, h3, h4, h5⟩ := Cond.arrayOver_spec h
  exact ⟨c, fun n z => ⟨fun k h => (by cases h), k, h3, comp, h4⟩, k, comp, h3, h4, h1, h5⟩
theorem x_K {s : State} {args : Array Value} (hts : ∀ w ∈ lw_tbl, w.before args s = true) : ∃ (D : va_G) (X : Nat → ClassId), c_V D X s := by
  have htq : ∀ w ∈ q_tbl, w.before args s = true := fun w hw => hts w (List.mem_filter.mp hw).1
  have htt : ∀ (i : Nat) (w : Cond), tables_1[i]? = some w → w.before args s = true := fun i w h => hts w (List.mem_append_right _ (List.mem_of_getElem? h))
  obtain ⟨D, hD⟩ := x_kn htq
  obtain ⟨a0, p0, r0⟩ := x_ar (ty := .int) (htt 69 _ (by decide +kernel)) (fun C h => by cases h)
  obtain ⟨a1, p1, r1⟩ := x_ar (ty := .char) (htt 40 _ (by decide +kernel)) (fun C h => by cases h)
  obtain ⟨a2, p2, r2⟩ := x_ar (ty := .boolean) (htt 200 _ (by decide +kernel)) (fun C h => by cases h)
  obtain ⟨a3, p3, r3⟩ := x_ar (ty := .long) (htt 253 _ (by decide +kernel)) (fun C h => by cases h)
  have o4 : (Cond.arrayOver (.object "WaterOthers$Walker")).before args s = true := htt 48 _ (by decide +kernel)
  obtain ⟨a4, p4, r4⟩ := x_ao o4
  have o5 : (Cond.arrayOver (.object "WaterOthers$Reach")).before args s = true := htt 175 _ (by decide +kernel)
  obtain ⟨a5, p5, r5⟩ := x_ao o5
  refine ⟨D, fun k => [a0, a1, a2, a3, a4, a5].getD k a0, ⟨hD, fun k q hq => ?_⟩, fun w hw => ?_, o4, o5⟩
  · match k, hq with
    | 0, hq => cases hq; exact ⟨p0, r0⟩
    | 1, hq => cases hq; exact ⟨p1, r1⟩
    | 2, hq => cases hq; exact ⟨p2, r2⟩
    | 3, hq => cases hq; exact ⟨p3, r3⟩
    | 4, hq => cases hq; exact ⟨p4, r4⟩
    | 5, hq => cases hq; exact ⟨p5, r5⟩
    | k + 6, hq => simp [q_tys] at hq
  · have h1 := hts w (List.mem_append_right _ (List.mem_filter.mp hw).1)
    have h2 : q_isN w = true := (List.mem_filter.mp hw).2
    cases w <;> first | exact va_Nw.of rfl h1 | exact absurd h2 (by simp [q_isN])
theorem x_st {s : State} {args : Array Value} {A : Nat → Prop} (hts : ∀ w ∈ lw_tbl, w.before args s = true) (hgv : (Jvm.Cond.and given_1 narrow_1).before args s = true) (hA : ∀ a : Nat, a < s.heap.size → ¬ A a) : ∃ S : Nat → Nat,
    va_Z "WaterOthers" "DRAWN" "[C" (.ref (S 0)) A s s.heap ∧ va_T .char (S 0) 8 (fun j => .int (q_s0 j)) A s s.heap ∧
    va_Z "WaterOthers$TripFinder" "ROWS" "[I" (.ref (S 1)) A s s.heap ∧ va_T .int (S 1) 6 (fun j => .int (q_s1 j)) A s s.heap ∧
    va_Z "WaterOthers$TripFinder" "STEPS" "[I" (.ref (S 2)) A s s.heap ∧ va_T .int (S 2) 3 (fun j => .int (q_s2 j)) A s s.heap := by
  have htt : ∀ (i : Nat) (w : Cond), tables_1[i]? = some w → w.before args s = true := fun i w h => hts w (List.mem_append_right _ (List.mem_of_getElem? h))
  have hs := flat_of_before _ hgv
  have e0_0 : (Term.elem (Term.static "WaterOthers" "DRAWN" "[C") (.int 0)).eval args s none [] s = some (.int 60) := va_eqt (hs (Cond.eq (Term.elem (Term.static "WaterOthers" "DRAWN" "[C") (.int 0)) (.int 60)) (by decide +kernel))
  have e0_1 : (Term.elem (Term.static "WaterOthers" "DRAWN" "[C") (.int 1)).eval args s none [] s = some (.int 60) := va_eqt (hs (Cond.eq (Term.elem (Term.static "WaterOthers" "DRAWN" "[C") (.int 1)) (.int 60)) (by decide +kernel))
  have e0_2 : (Term.elem (Term.static "WaterOthers" "DRAWN" "[C") (.int 2)).eval args s none [] s = some (.int 62) := va_eqt (hs (Cond.eq (Term.elem (Term.static "WaterOthers" "DRAWN" "[C") (.int 2)) (.int 62)) (by decide +kernel))
  have e0_3 : (Term.elem (Term.static "WaterOthers" "DRAWN" "[C") (.int 3)).eval args s none [] s = some (.int 62) := va_eqt (hs (Cond.eq (Term.elem (Term.static "WaterOthers" "DRAWN" "[C") (.int 3)) (.int 62)) (by decide +kernel))
  have e0_4 : (Term.elem (Term.static "WaterOthers" "DRAWN" "[C") (.int 4)).eval args s none [] s = some (.int 61) := va_eqt (hs (Cond.eq (Term.elem (Term.static "WaterOthers" "DRAWN" "[C") (.int 4)) (.int 61)) (by decide +kernel))
  have e0_5 : (Term.elem (Term.static "WaterOthers" "DRAWN" "[C") (.int 5)).eval args s none [] s = some (.int 42) := va_eqt (hs (Cond.eq (Term.elem (Term.static "WaterOthers" "DRAWN" "[C") (.int 5)) (.int 42)) (by decide +kernel))
  have e0_6 : (Term.elem (Term.static "WaterOthers" "DRAWN" "[C") (.int 6)).eval args s none [] s = some (.int 126) := va_eqt (hs (Cond.eq (Term.elem (Term.static "WaterOthers" "DRAWN" "[C") (.int 6)) (.int 126)) (by decide +kernel))
  have e0_7 : (Term.elem (Term.static "WaterOthers" "DRAWN" "[C") (.int 7)).eval args s none [] s = some (.int 46) := va_eqt (hs (Cond.eq (Term.elem (Term.static "WaterOthers" "DRAWN" "[C") (.int 7)) (.int 46)) (by decide +kernel))
  obtain ⟨t0, v0, T0⟩ := va_Tof (tm := (Term.static "WaterOthers" "DRAWN" "[C")) (ty := .char) (N := 8) (f := fun j => .int (q_s0 j)) (A := A) (by decide) (hs (Cond.arrayOf (Term.static "WaterOthers" "DRAWN" "[C") .char) (by decide +kernel)) (va_eqt (hs (Cond.eq (Term.length (Term.static "WaterOthers" "DRAWN" "[C")) (.int 8)) (by decide +kernel))) (fun j hj => by
    rcases (show j = 0 ∨ j = 1 ∨ j = 2 ∨ j = 3 ∨ j = 4 ∨ j = 5 ∨ j = 6 ∨ j = 7 by omega) with rfl | rfl | rfl | rfl | rfl | rfl | rfl | rfl
    · exact e0_0
    · exact e0_1
    · exact e0_2
    · exact e0_3
    · exact e0_4
    · exact e0_5
    · exact e0_6
    · exact e0_7) hA
  have Z0 := va_Zref (C := "WaterOthers") (n := "DRAWN") (d := "[C") (A := A) (htt 656 _ (by decide +kernel)) (htt 1 _ (by decide +kernel)) v0 hA
  have e1_0 : (Term.elem (Term.static "WaterOthers$TripFinder" "ROWS" "[I") (.int 0)).eval args s none [] s = some (.int 1) := va_eqt (hs (Cond.eq (Term.elem (Term.static "WaterOthers$TripFinder" "ROWS" "[I") (.int 0)) (.int 1)) (by decide +kernel))
  have e1_1 : (Term.elem (Term.static "WaterOthers$TripFinder" "ROWS" "[I") (.int 1)).eval args s none [] s = some (.int 3) := va_eqt (hs (Cond.eq (Term.elem (Term.static "WaterOthers$TripFinder" "ROWS" "[I") (.int 1)) (.int 3)) (by decide +kernel))
  have e1_2 : (Term.elem (Term.static "WaterOthers$TripFinder" "ROWS" "[I") (.int 2)).eval args s none [] s = some (.int 9) := va_eqt (hs (Cond.eq (Term.elem (Term.static "WaterOthers$TripFinder" "ROWS" "[I") (.int 2)) (.int 9)) (by decide +kernel))
  have e1_3 : (Term.elem (Term.static "WaterOthers$TripFinder" "ROWS" "[I") (.int 3)).eval args s none [] s = some (.int 27) := va_eqt (hs (Cond.eq (Term.elem (Term.static "WaterOthers$TripFinder" "ROWS" "[I") (.int 3)) (.int 27)) (by decide +kernel))
  have e1_4 : (Term.elem (Term.static "WaterOthers$TripFinder" "ROWS" "[I") (.int 4)).eval args s none [] s = some (.int 81) := va_eqt (hs (Cond.eq (Term.elem (Term.static "WaterOthers$TripFinder" "ROWS" "[I") (.int 4)) (.int 81)) (by decide +kernel))
  have e1_5 : (Term.elem (Term.static "WaterOthers$TripFinder" "ROWS" "[I") (.int 5)).eval args s none [] s = some (.int 243) := va_eqt (hs (Cond.eq (Term.elem (Term.static "WaterOthers$TripFinder" "ROWS" "[I") (.int 5)) (.int 243)) (by decide +kernel))
  obtain ⟨t1, v1, T1⟩ := va_Tof (tm := (Term.static "WaterOthers$TripFinder" "ROWS" "[I")) (ty := .int) (N := 6) (f := fun j => .int (q_s1 j)) (A := A) (by decide) (hs (Cond.arrayOf (Term.static "WaterOthers$TripFinder" "ROWS" "[I") .int) (by decide +kernel)) (va_eqt (hs (Cond.eq (Term.length (Term.static "WaterOthers$TripFinder" "ROWS" "[I")) (.int 6)) (by decide +kernel))) (fun j hj => by
    rcases (show j = 0 ∨ j = 1 ∨ j = 2 ∨ j = 3 ∨ j = 4 ∨ j = 5 by omega) with rfl | rfl | rfl | rfl | rfl | rfl
    · exact e1_0
    · exact e1_1
    · exact e1_2
    · exact e1_3
    · exact e1_4
    · exact e1_5) hA
  have Z1 := va_Zref (C := "WaterOthers$TripFinder") (n := "ROWS") (d := "[I") (A := A) (htt 504 _ (by decide +kernel)) (htt 7 _ (by decide +kernel)) v1 hA
  have e2_0 : (Term.elem (Term.static "WaterOthers$TripFinder" "STEPS" "[I") (.int 0)).eval args s none [] s = some (.int 0) := va_eqt (hs (Cond.eq (Term.elem (Term.static "WaterOthers$TripFinder" "STEPS" "[I") (.int 0)) (.int 0)) (by decide +kernel))
  have e2_1 : (Term.elem (Term.static "WaterOthers$TripFinder" "STEPS" "[I") (.int 1)).eval args s none [] s = some (.int (-1)) := va_eqt (hs (Cond.eq (Term.elem (Term.static "WaterOthers$TripFinder" "STEPS" "[I") (.int 1)) (.int (-1))) (by decide +kernel))
  have e2_2 : (Term.elem (Term.static "WaterOthers$TripFinder" "STEPS" "[I") (.int 2)).eval args s none [] s = some (.int 1) := va_eqt (hs (Cond.eq (Term.elem (Term.static "WaterOthers$TripFinder" "STEPS" "[I") (.int 2)) (.int 1)) (by decide +kernel))
  obtain ⟨t2, v2, T2⟩ := va_Tof (tm := (Term.static "WaterOthers$TripFinder" "STEPS" "[I")) (ty := .int) (N := 3) (f := fun j => .int (q_s2 j)) (A := A) (by decide) (hs (Cond.arrayOf (Term.static "WaterOthers$TripFinder" "STEPS" "[I") .int) (by decide +kernel)) (va_eqt (hs (Cond.eq (Term.length (Term.static "WaterOthers$TripFinder" "STEPS" "[I")) (.int 3)) (by decide +kernel))) (fun j hj => by
    rcases (show j = 0 ∨ j = 1 ∨ j = 2 by omega) with rfl | rfl | rfl
    · exact e2_0
    · exact e2_1
    · exact e2_2) hA
  have Z2 := va_Zref (C := "WaterOthers$TripFinder") (n := "STEPS") (d := "[I") (A := A) (htt 518 _ (by decide +kernel)) (htt 7 _ (by decide +kernel)) v2 hA
  exact ⟨fun k => [t0, t1, t2].getD k 0, Z0, T0, Z1, T1, Z2, T2⟩
set_option maxHeartbeats 4000000 in
set_option maxRecDepth 100000 in
theorem whole_start {p : Program} {e : Env} {s : State} {m : MethodId} {below : List Frame} {meth : Method} {c : Code} (l : Launch) {b L : Nat} {xs : Nat → Int32} (hL : L ≤ 384) (C0 : lw_At p s m meth c b L xs) : W p l e room_1 s m #[Value.ref b] below meth c s.heap [] 0 0 (lw_Z below #[Value.ref b] s) (entryFrame m ([Value.ref b] : List Value).toArray 4) := by
  obtain ⟨hx, hb, hr, hml, hown, hts, hX, hbl, hlocks, hgv⟩ := id C0
  obtain ⟨D, X, hV⟩ := x_K hts
  have htq : ∀ w ∈ q_tbl, w.before #[Value.ref b] s = true := fun w hw => hts w (List.mem_filter.mp hw).1
  rw [lg_entry_eq]
  have B : c_B D X (fun q => s.heap.size ≤ q) (p, l, e, room_1, s, m, #[Value.ref b], below, meth, c, lw_Z below #[Value.ref b] s, 98, 17987) code "WaterOthersLaw" 4 12 98 17987 :=
    ⟨⟨hx, hb, hml, hown, htq⟩, hV, fun _ h => h, ⟨by decide, by decide⟩, by decide, by decide⟩
  have G : c_G D (fun q => s.heap.size ≤ q) (p, l, e, room_1, s, m, #[Value.ref b], below, meth, c, lw_Z below #[Value.ref b] s, 98, 17987) 4 [] 0 0 0 (lv_args 0 [.ref b]) [] := by
    refine c_cut (lv' := [(0, .ref b)]) rfl ?_
    refine c_new (C := "WaterOthers") (ci := 9) (fs := [.null, .null, .null, .null, .null, .null, .null, .null, .null]) (Rs := c_RO X) B d_L_law_0 d_L_law_3 d_L_law_4 q_in9 q_yk9 x_cl9 x_in9 x_it9 rfl (fun j hj => by rcases (show j = 0 ∨ j = 1 ∨ j = 2 ∨ j = 3 ∨ j = 4 ∨ j = 5 ∨ j = 6 ∨ j = 7 ∨ j = 8 by omega) with rfl | rfl | rfl | rfl | rfl | rfl | rfl | rfl | rfl <;> rfl) (t_X9_init _ D X) x_co9 x_im9 x_it9 rfl (by decide +kernel) x_ln9 (Nat.le_of_ble_eq_true rfl) (by decide) (by decide) (by decide) (by decide) (fun q a e => ?_)
    subst e
    refine c_astore_n B d_L_law_7 rfl (by decide) ?_
    refine c_new (C := "WaterOthersModel") (ci := 10) (fs := [.null, .null, .int 0, .null, .int 0, .int 0, .int 0, .null, .int 0, .null, .int 0, .int 0, .int 0, .int 0, .null, .null, .null, .null, .null, .null, .null, .null]) (Rs := c_RM X) B d_L_law_8 d_L_law_11 d_L_law_12 q_in10 q_yk10 x_cl10 x_in10 x_it10 rfl (fun j hj => by rcases (show j = 0 ∨ j = 1 ∨ j = 2 ∨ j = 3 ∨ j = 4 ∨ j = 5 ∨ j = 6 ∨ j = 7 ∨ j = 8 ∨ j = 9 ∨ j = 10 ∨ j = 11 ∨ j = 12 ∨ j = 13 ∨ j = 14 ∨ j = 15 ∨ j = 16 ∨ j = 17 ∨ j = 18 ∨ j = 19 ∨ j = 20 ∨ j = 21 by omega) with rfl | rfl | rfl | rfl | rfl | rfl | rfl | rfl | rfl | rfl | rfl | rfl | rfl | rfl | rfl | rfl | rfl | rfl | rfl | rfl | rfl | rfl <;> rfl) (t_X10_init _ D X) x_co10 x_im10 x_it10 rfl (by decide +kernel) x_ln10 (Nat.le_of_ble_eq_true rfl) (by decide) (by decide) (by decide) (by decide) (fun q b1 e => ?_)
    subst e
    refine c_astore_n B d_L_law_15 rfl (by decide) ?_
    refine c_cut (lv' := [(0, .ref b), (1, .ref (a 0 0)), (2, .ref (b1 0 0))]) rfl ?_
    show c_G D _ _ 4 (c_RO X a ++ c_RM X b1) 98 17987 16 _ []
    intro H locs ls hP hD hS hl
    have hE : ∀ q, q_A (q_E0 a b1, X, D, fun _ => 0) q → s.heap.size ≤ q := by
      intro q hq
      obtain ⟨p0, hp0, rfl⟩ := hq
      exact (q_d0 (D := D) (S := fun _ => 0) hD).2 p0 _ (q_ws_at (q_E0 a b1, X, D, fun _ => 0) q_σ0 hp0)
    obtain ⟨S, hSt⟩ := x_st (A := q_A (q_E0 a b1, X, D, fun _ => 0)) hts hgv (fun z hz h => absurd (hE z h) (Nat.not_le.mpr hz))
    obtain ⟨σ', hσ⟩ := p_law L hL xs
    have hG := t_L_law (Z := (q_E0 a b1, X, D, S)) (Γ := (p, l, e, room_1, s, m, #[Value.ref b], below, meth, c, lw_Z below #[Value.ref b] s, 98, 17987)) (b := b) (L := L) (xs := xs) (σ' := σ')
      ⟨⟨hx, hb, hml, hown, htq⟩, hV.1, hV.2.1, hSt, ⟨by decide, by decide⟩, by decide, by decide⟩
      ⟨rfl, rfl, rfl, hr, hlocks, hX, hbl, hE, by decide, by decide⟩ 100000 q_σ0 hσ
    refine va_forget (fun q hq => hS.2.2 q hq) ?_
    have hD1 := q_d0 (D := D) (S := S) hD
    exact hG H [] ls (q_w0 hP) ⟨hD1.1, fun k q hk => by
        have hk2 : k < 98 := by
          have := (List.getElem?_eq_some_iff.mp hk).1
          rw [q_ws_len] at this
          exact this
        rw [q_ws_at _ _ hk2] at hk
        cases hk
        exact ⟨k, hk2, rfl⟩⟩ ⟨hS.1, fun q h1 _ => hS.2.1 q h1 (Nat.not_le.mpr h1), fun _ h => by cases h⟩ hl
  exact G s.heap [] _ (fun k q h => by simp at h) ⟨fun i j p q h => by simp at h, fun k q h => by simp at h⟩ va_S.rf (lv_entry [.ref b] (Nat.le_of_ble_eq_true rfl))
