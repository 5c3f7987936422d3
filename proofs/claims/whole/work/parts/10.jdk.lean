def y_J9_max_7cf53 : MethodName := ⟨"java/lang/Math", "max", "(II)I"⟩
def y_J9_min_7cf53 : MethodName := ⟨"java/lang/Math", "min", "(II)I"⟩
def y_J9_abs_0f7a4 : MethodName := ⟨"java/lang/Math", "abs", "(I)I"⟩
def y_J9_floorMod_7cf53 : MethodName := ⟨"java/lang/Math", "floorMod", "(II)I"⟩
def y_J6_bitCount_0f7a4 : MethodName := ⟨"java/lang/Integer", "bitCount", "(I)I"⟩
def y_J7_fill_53178 : MethodName := ⟨"java/util/Arrays", "fill", "([II)V"⟩
def y_J7_fill_d0a16 : MethodName := ⟨"java/util/Arrays", "fill", "([JJ)V"⟩
theorem d_J9_max_7cf53_0 : q_dec prog_14_method_65_code 0 (.iload_n 0) 1 1 := ⟨by decide +kernel, rfl⟩
theorem d_J9_max_7cf53_1 : q_dec prog_14_method_65_code 1 (.iload_n 1) 1 2 := ⟨by decide +kernel, rfl⟩
theorem d_J9_max_7cf53_2 : q_dec prog_14_method_65_code 2 (.if_icmp .lt 7) 3 5 := ⟨by decide +kernel, rfl⟩
theorem d_J9_max_7cf53_5 : q_dec prog_14_method_65_code 5 (.iload_n 0) 1 6 := ⟨by decide +kernel, rfl⟩
theorem d_J9_max_7cf53_6 : q_dec prog_14_method_65_code 6 (.goto 4) 3 9 := ⟨by decide +kernel, rfl⟩
theorem d_J9_max_7cf53_9 : q_dec prog_14_method_65_code 9 (.iload_n 1) 1 10 := ⟨by decide +kernel, rfl⟩
theorem d_J9_max_7cf53_10 : q_dec prog_14_method_65_code 10 (.ireturn) 1 11 := ⟨by decide +kernel, rfl⟩
theorem m_J9_max_7cf53 : q_wS y_J9_max_7cf53 prog_14_method_65_code 2 (some .int) 2 := ⟨q_mem 548 (by decide +kernel) (by decide +kernel), q_mem 547 (by decide +kernel) (by decide +kernel), q_mem 15 (by decide +kernel) (by decide +kernel), by decide +kernel⟩
theorem d_J9_min_7cf53_0 : q_dec prog_14_method_69_code 0 (.iload_n 0) 1 1 := ⟨by decide +kernel, rfl⟩
theorem d_J9_min_7cf53_1 : q_dec prog_14_method_69_code 1 (.iload_n 1) 1 2 := ⟨by decide +kernel, rfl⟩
theorem d_J9_min_7cf53_2 : q_dec prog_14_method_69_code 2 (.if_icmp .gt 7) 3 5 := ⟨by decide +kernel, rfl⟩
theorem d_J9_min_7cf53_5 : q_dec prog_14_method_69_code 5 (.iload_n 0) 1 6 := ⟨by decide +kernel, rfl⟩
theorem d_J9_min_7cf53_6 : q_dec prog_14_method_69_code 6 (.goto 4) 3 9 := ⟨by decide +kernel, rfl⟩
theorem d_J9_min_7cf53_9 : q_dec prog_14_method_69_code 9 (.iload_n 1) 1 10 := ⟨by decide +kernel, rfl⟩
theorem d_J9_min_7cf53_10 : q_dec prog_14_method_69_code 10 (.ireturn) 1 11 := ⟨by decide +kernel, rfl⟩
theorem m_J9_min_7cf53 : q_wS y_J9_min_7cf53 prog_14_method_69_code 2 (some .int) 2 := ⟨q_mem 607 (by decide +kernel) (by decide +kernel), q_mem 606 (by decide +kernel) (by decide +kernel), q_mem 15 (by decide +kernel) (by decide +kernel), by decide +kernel⟩
theorem d_J9_abs_0f7a4_0 : q_dec prog_14_method_59_code 0 (.iload_n 0) 1 1 := ⟨by decide +kernel, rfl⟩
theorem d_J9_abs_0f7a4_1 : q_dec prog_14_method_59_code 1 (.ifCond .ge 8) 3 4 := ⟨by decide +kernel, rfl⟩
theorem d_J9_abs_0f7a4_4 : q_dec prog_14_method_59_code 4 (.iload_n 0) 1 5 := ⟨by decide +kernel, rfl⟩
theorem d_J9_abs_0f7a4_5 : q_dec prog_14_method_59_code 5 (.ineg) 1 6 := ⟨by decide +kernel, rfl⟩
theorem d_J9_abs_0f7a4_6 : q_dec prog_14_method_59_code 6 (.goto 4) 3 9 := ⟨by decide +kernel, rfl⟩
theorem d_J9_abs_0f7a4_9 : q_dec prog_14_method_59_code 9 (.iload_n 0) 1 10 := ⟨by decide +kernel, rfl⟩
theorem d_J9_abs_0f7a4_10 : q_dec prog_14_method_59_code 10 (.ireturn) 1 11 := ⟨by decide +kernel, rfl⟩
theorem m_J9_abs_0f7a4 : q_wS y_J9_abs_0f7a4 prog_14_method_59_code 1 (some .int) 1 := ⟨q_mem 418 (by decide +kernel) (by decide +kernel), q_mem 417 (by decide +kernel) (by decide +kernel), q_mem 15 (by decide +kernel) (by decide +kernel), by decide +kernel⟩
theorem d_J9_floorMod_7cf53_0 : q_dec prog_14_method_50_code 0 (.iload_n 0) 1 1 := ⟨by decide +kernel, rfl⟩
theorem d_J9_floorMod_7cf53_1 : q_dec prog_14_method_50_code 1 (.iload_n 1) 1 2 := ⟨by decide +kernel, rfl⟩
theorem d_J9_floorMod_7cf53_2 : q_dec prog_14_method_50_code 2 (.irem) 1 3 := ⟨by decide +kernel, rfl⟩
theorem d_J9_floorMod_7cf53_3 : q_dec prog_14_method_50_code 3 (.istore_n 2) 1 4 := ⟨by decide +kernel, rfl⟩
theorem d_J9_floorMod_7cf53_4 : q_dec prog_14_method_50_code 4 (.iload_n 0) 1 5 := ⟨by decide +kernel, rfl⟩
theorem d_J9_floorMod_7cf53_5 : q_dec prog_14_method_50_code 5 (.iload_n 1) 1 6 := ⟨by decide +kernel, rfl⟩
theorem d_J9_floorMod_7cf53_6 : q_dec prog_14_method_50_code 6 (.ixor) 1 7 := ⟨by decide +kernel, rfl⟩
theorem d_J9_floorMod_7cf53_7 : q_dec prog_14_method_50_code 7 (.ifCond .ge 11) 3 10 := ⟨by decide +kernel, rfl⟩
theorem d_J9_floorMod_7cf53_10 : q_dec prog_14_method_50_code 10 (.iload_n 2) 1 11 := ⟨by decide +kernel, rfl⟩
theorem d_J9_floorMod_7cf53_11 : q_dec prog_14_method_50_code 11 (.ifCond .eq 7) 3 14 := ⟨by decide +kernel, rfl⟩
theorem d_J9_floorMod_7cf53_14 : q_dec prog_14_method_50_code 14 (.iload_n 2) 1 15 := ⟨by decide +kernel, rfl⟩
theorem d_J9_floorMod_7cf53_15 : q_dec prog_14_method_50_code 15 (.iload_n 1) 1 16 := ⟨by decide +kernel, rfl⟩
theorem d_J9_floorMod_7cf53_16 : q_dec prog_14_method_50_code 16 (.iadd) 1 17 := ⟨by decide +kernel, rfl⟩
theorem d_J9_floorMod_7cf53_17 : q_dec prog_14_method_50_code 17 (.ireturn) 1 18 := ⟨by decide +kernel, rfl⟩
theorem d_J9_floorMod_7cf53_18 : q_dec prog_14_method_50_code 18 (.iload_n 2) 1 19 := ⟨by decide +kernel, rfl⟩
theorem d_J9_floorMod_7cf53_19 : q_dec prog_14_method_50_code 19 (.ireturn) 1 20 := ⟨by decide +kernel, rfl⟩
theorem m_J9_floorMod_7cf53 : q_wS y_J9_floorMod_7cf53 prog_14_method_50_code 3 (some .int) 2 := ⟨q_mem 577 (by decide +kernel) (by decide +kernel), q_mem 576 (by decide +kernel) (by decide +kernel), q_mem 15 (by decide +kernel) (by decide +kernel), by decide +kernel⟩
theorem d_J6_bitCount_0f7a4_0 : q_dec prog_13_method_49_code 0 (.iload_n 0) 1 1 := ⟨by decide +kernel, rfl⟩
theorem d_J6_bitCount_0f7a4_1 : q_dec prog_13_method_49_code 1 (.iload_n 0) 1 2 := ⟨by decide +kernel, rfl⟩
theorem d_J6_bitCount_0f7a4_2 : q_dec prog_13_method_49_code 2 (.iconst 1) 1 3 := ⟨by decide +kernel, rfl⟩
theorem d_J6_bitCount_0f7a4_3 : q_dec prog_13_method_49_code 3 (.iushr) 1 4 := ⟨by decide +kernel, rfl⟩
theorem d_J6_bitCount_0f7a4_4 : q_dec prog_13_method_49_code 4 (.ldc_w 265) 3 7 := ⟨by decide +kernel, rfl⟩
theorem d_J6_bitCount_0f7a4_7 : q_dec prog_13_method_49_code 7 (.iand) 1 8 := ⟨by decide +kernel, rfl⟩
theorem d_J6_bitCount_0f7a4_8 : q_dec prog_13_method_49_code 8 (.isub) 1 9 := ⟨by decide +kernel, rfl⟩
theorem d_J6_bitCount_0f7a4_9 : q_dec prog_13_method_49_code 9 (.istore_n 0) 1 10 := ⟨by decide +kernel, rfl⟩
theorem d_J6_bitCount_0f7a4_10 : q_dec prog_13_method_49_code 10 (.iload_n 0) 1 11 := ⟨by decide +kernel, rfl⟩
theorem d_J6_bitCount_0f7a4_11 : q_dec prog_13_method_49_code 11 (.ldc_w 266) 3 14 := ⟨by decide +kernel, rfl⟩
theorem d_J6_bitCount_0f7a4_14 : q_dec prog_13_method_49_code 14 (.iand) 1 15 := ⟨by decide +kernel, rfl⟩
theorem d_J6_bitCount_0f7a4_15 : q_dec prog_13_method_49_code 15 (.iload_n 0) 1 16 := ⟨by decide +kernel, rfl⟩
theorem d_J6_bitCount_0f7a4_16 : q_dec prog_13_method_49_code 16 (.iconst 2) 1 17 := ⟨by decide +kernel, rfl⟩
theorem d_J6_bitCount_0f7a4_17 : q_dec prog_13_method_49_code 17 (.iushr) 1 18 := ⟨by decide +kernel, rfl⟩
theorem d_J6_bitCount_0f7a4_18 : q_dec prog_13_method_49_code 18 (.ldc_w 266) 3 21 := ⟨by decide +kernel, rfl⟩
theorem d_J6_bitCount_0f7a4_21 : q_dec prog_13_method_49_code 21 (.iand) 1 22 := ⟨by decide +kernel, rfl⟩
theorem d_J6_bitCount_0f7a4_22 : q_dec prog_13_method_49_code 22 (.iadd) 1 23 := ⟨by decide +kernel, rfl⟩
theorem d_J6_bitCount_0f7a4_23 : q_dec prog_13_method_49_code 23 (.istore_n 0) 1 24 := ⟨by decide +kernel, rfl⟩
theorem d_J6_bitCount_0f7a4_24 : q_dec prog_13_method_49_code 24 (.iload_n 0) 1 25 := ⟨by decide +kernel, rfl⟩
theorem d_J6_bitCount_0f7a4_25 : q_dec prog_13_method_49_code 25 (.iload_n 0) 1 26 := ⟨by decide +kernel, rfl⟩
theorem d_J6_bitCount_0f7a4_26 : q_dec prog_13_method_49_code 26 (.iconst 4) 1 27 := ⟨by decide +kernel, rfl⟩
theorem d_J6_bitCount_0f7a4_27 : q_dec prog_13_method_49_code 27 (.iushr) 1 28 := ⟨by decide +kernel, rfl⟩
theorem d_J6_bitCount_0f7a4_28 : q_dec prog_13_method_49_code 28 (.iadd) 1 29 := ⟨by decide +kernel, rfl⟩
theorem d_J6_bitCount_0f7a4_29 : q_dec prog_13_method_49_code 29 (.ldc_w 267) 3 32 := ⟨by decide +kernel, rfl⟩
theorem d_J6_bitCount_0f7a4_32 : q_dec prog_13_method_49_code 32 (.iand) 1 33 := ⟨by decide +kernel, rfl⟩
theorem d_J6_bitCount_0f7a4_33 : q_dec prog_13_method_49_code 33 (.istore_n 0) 1 34 := ⟨by decide +kernel, rfl⟩
theorem d_J6_bitCount_0f7a4_34 : q_dec prog_13_method_49_code 34 (.iload_n 0) 1 35 := ⟨by decide +kernel, rfl⟩
theorem d_J6_bitCount_0f7a4_35 : q_dec prog_13_method_49_code 35 (.iload_n 0) 1 36 := ⟨by decide +kernel, rfl⟩
theorem d_J6_bitCount_0f7a4_36 : q_dec prog_13_method_49_code 36 (.bipush 8) 2 38 := ⟨by decide +kernel, rfl⟩
theorem d_J6_bitCount_0f7a4_38 : q_dec prog_13_method_49_code 38 (.iushr) 1 39 := ⟨by decide +kernel, rfl⟩
theorem d_J6_bitCount_0f7a4_39 : q_dec prog_13_method_49_code 39 (.iadd) 1 40 := ⟨by decide +kernel, rfl⟩
theorem d_J6_bitCount_0f7a4_40 : q_dec prog_13_method_49_code 40 (.istore_n 0) 1 41 := ⟨by decide +kernel, rfl⟩
theorem d_J6_bitCount_0f7a4_41 : q_dec prog_13_method_49_code 41 (.iload_n 0) 1 42 := ⟨by decide +kernel, rfl⟩
theorem d_J6_bitCount_0f7a4_42 : q_dec prog_13_method_49_code 42 (.iload_n 0) 1 43 := ⟨by decide +kernel, rfl⟩
theorem d_J6_bitCount_0f7a4_43 : q_dec prog_13_method_49_code 43 (.bipush 16) 2 45 := ⟨by decide +kernel, rfl⟩
theorem d_J6_bitCount_0f7a4_45 : q_dec prog_13_method_49_code 45 (.iushr) 1 46 := ⟨by decide +kernel, rfl⟩
theorem d_J6_bitCount_0f7a4_46 : q_dec prog_13_method_49_code 46 (.iadd) 1 47 := ⟨by decide +kernel, rfl⟩
theorem d_J6_bitCount_0f7a4_47 : q_dec prog_13_method_49_code 47 (.istore_n 0) 1 48 := ⟨by decide +kernel, rfl⟩
theorem d_J6_bitCount_0f7a4_48 : q_dec prog_13_method_49_code 48 (.iload_n 0) 1 49 := ⟨by decide +kernel, rfl⟩
theorem d_J6_bitCount_0f7a4_49 : q_dec prog_13_method_49_code 49 (.bipush 63) 2 51 := ⟨by decide +kernel, rfl⟩
theorem d_J6_bitCount_0f7a4_51 : q_dec prog_13_method_49_code 51 (.iand) 1 52 := ⟨by decide +kernel, rfl⟩
theorem d_J6_bitCount_0f7a4_52 : q_dec prog_13_method_49_code 52 (.ireturn) 1 53 := ⟨by decide +kernel, rfl⟩
theorem m_J6_bitCount_0f7a4 : q_wS y_J6_bitCount_0f7a4 prog_13_method_49_code 1 (some .int) 1 := ⟨q_mem 317 (by decide +kernel) (by decide +kernel), q_mem 316 (by decide +kernel) (by decide +kernel), q_mem 13 (by decide +kernel) (by decide +kernel), by decide +kernel⟩
theorem d_J7_fill_53178_0 : q_dec prog_16_method_103_code 0 (.iconst 0) 1 1 := ⟨by decide +kernel, rfl⟩
theorem d_J7_fill_53178_1 : q_dec prog_16_method_103_code 1 (.istore_n 2) 1 2 := ⟨by decide +kernel, rfl⟩
theorem d_J7_fill_53178_2 : q_dec prog_16_method_103_code 2 (.aload_n 0) 1 3 := ⟨by decide +kernel, rfl⟩
theorem d_J7_fill_53178_3 : q_dec prog_16_method_103_code 3 (.arraylength) 1 4 := ⟨by decide +kernel, rfl⟩
theorem d_J7_fill_53178_4 : q_dec prog_16_method_103_code 4 (.istore_n 3) 1 5 := ⟨by decide +kernel, rfl⟩
theorem d_J7_fill_53178_5 : q_dec prog_16_method_103_code 5 (.iload_n 2) 1 6 := ⟨by decide +kernel, rfl⟩
theorem d_J7_fill_53178_6 : q_dec prog_16_method_103_code 6 (.iload_n 3) 1 7 := ⟨by decide +kernel, rfl⟩
theorem d_J7_fill_53178_7 : q_dec prog_16_method_103_code 7 (.if_icmp .ge 13) 3 10 := ⟨by decide +kernel, rfl⟩
theorem d_J7_fill_53178_10 : q_dec prog_16_method_103_code 10 (.aload_n 0) 1 11 := ⟨by decide +kernel, rfl⟩
theorem d_J7_fill_53178_11 : q_dec prog_16_method_103_code 11 (.iload_n 2) 1 12 := ⟨by decide +kernel, rfl⟩
theorem d_J7_fill_53178_12 : q_dec prog_16_method_103_code 12 (.iload_n 1) 1 13 := ⟨by decide +kernel, rfl⟩
theorem d_J7_fill_53178_13 : q_dec prog_16_method_103_code 13 (.iastore) 1 14 := ⟨by decide +kernel, rfl⟩
theorem d_J7_fill_53178_14 : q_dec prog_16_method_103_code 14 (.iinc 2 1) 3 17 := ⟨by decide +kernel, rfl⟩
theorem d_J7_fill_53178_17 : q_dec prog_16_method_103_code 17 (.goto (-12)) 3 20 := ⟨by decide +kernel, rfl⟩
theorem d_J7_fill_53178_20 : q_dec prog_16_method_103_code 20 (.return_) 1 21 := ⟨by decide +kernel, rfl⟩
theorem m_J7_fill_53178 : q_wS y_J7_fill_53178 prog_16_method_103_code 4 none 2 := ⟨q_mem 310 (by decide +kernel) (by decide +kernel), q_mem 309 (by decide +kernel) (by decide +kernel), q_mem 12 (by decide +kernel) (by decide +kernel), by decide +kernel⟩
theorem d_J7_fill_d0a16_0 : q_dec prog_16_method_101_code 0 (.iconst 0) 1 1 := ⟨by decide +kernel, rfl⟩
theorem d_J7_fill_d0a16_1 : q_dec prog_16_method_101_code 1 (.istore_n 3) 1 2 := ⟨by decide +kernel, rfl⟩
theorem d_J7_fill_d0a16_2 : q_dec prog_16_method_101_code 2 (.aload_n 0) 1 3 := ⟨by decide +kernel, rfl⟩
theorem d_J7_fill_d0a16_3 : q_dec prog_16_method_101_code 3 (.arraylength) 1 4 := ⟨by decide +kernel, rfl⟩
theorem d_J7_fill_d0a16_4 : q_dec prog_16_method_101_code 4 (.istore 4) 2 6 := ⟨by decide +kernel, rfl⟩
theorem d_J7_fill_d0a16_6 : q_dec prog_16_method_101_code 6 (.iload_n 3) 1 7 := ⟨by decide +kernel, rfl⟩
theorem d_J7_fill_d0a16_7 : q_dec prog_16_method_101_code 7 (.iload 4) 2 9 := ⟨by decide +kernel, rfl⟩
theorem d_J7_fill_d0a16_9 : q_dec prog_16_method_101_code 9 (.if_icmp .ge 13) 3 12 := ⟨by decide +kernel, rfl⟩
theorem d_J7_fill_d0a16_12 : q_dec prog_16_method_101_code 12 (.aload_n 0) 1 13 := ⟨by decide +kernel, rfl⟩
theorem d_J7_fill_d0a16_13 : q_dec prog_16_method_101_code 13 (.iload_n 3) 1 14 := ⟨by decide +kernel, rfl⟩
theorem d_J7_fill_d0a16_14 : q_dec prog_16_method_101_code 14 (.lload_n 1) 1 15 := ⟨by decide +kernel, rfl⟩
theorem d_J7_fill_d0a16_15 : q_dec prog_16_method_101_code 15 (.lastore) 1 16 := ⟨by decide +kernel, rfl⟩
theorem d_J7_fill_d0a16_16 : q_dec prog_16_method_101_code 16 (.iinc 3 1) 3 19 := ⟨by decide +kernel, rfl⟩
theorem d_J7_fill_d0a16_19 : q_dec prog_16_method_101_code 19 (.goto (-13)) 3 22 := ⟨by decide +kernel, rfl⟩
theorem d_J7_fill_d0a16_22 : q_dec prog_16_method_101_code 22 (.return_) 1 23 := ⟨by decide +kernel, rfl⟩
theorem m_J7_fill_d0a16 : q_wS y_J7_fill_d0a16 prog_16_method_101_code 5 none 2 := ⟨q_mem 633 (by decide +kernel) (by decide +kernel), q_mem 632 (by decide +kernel) (by decide +kernel), q_mem 12 (by decide +kernel) (by decide +kernel), by decide +kernel⟩
def f_J9_max_7cf53 (a0 : Int32) (a1 : Int32) : Int32 :=
  if a0 < a1 then (a1)
  else (a0)
set_option maxRecDepth 20000 in
theorem t_J9_max_7cf53 {Z : q_Z} {l : Launch} (a0 : Int32) (a1 : Int32)  (σ : q_S) {r : Int32} (h : f_J9_max_7cf53 a0 a1 = r) : q_M Z l y_J9_max_7cf53 prog_14_method_65_code 2 (some .int) 1 [.int a0, .int a1] σ (some (.int r)) σ := by
  refine q_met (by decide +kernel) (Nat.le_of_ble_eq_true rfl) (fun Γ hΓ B En => ?_)
  unfold f_J9_max_7cf53 at h
  refine g_cut (lv' := [(0, .int a0), (1, .int a1)]) rfl ?_
  refine g_iload_n B d_J9_max_7cf53_0 rfl rfl ?_
  refine g_iload_n B d_J9_max_7cf53_1 rfl rfl ?_
  refine g_icmp_lt (tgt := 9) B d_J9_max_7cf53_2 (by decide) h (fun h => ?_) (fun h => ?_)
  · refine g_iload_n B d_J9_max_7cf53_9 rfl rfl ?_
    subst h
    exact g_iret B En d_J9_max_7cf53_10
  · refine g_iload_n B d_J9_max_7cf53_5 rfl rfl ?_
    refine g_goto (tgt := 10) B d_J9_max_7cf53_6 (by decide) ?_
    subst h
    exact g_iret B En d_J9_max_7cf53_10

def f_J9_min_7cf53 (a0 : Int32) (a1 : Int32) : Int32 :=
  if a1 < a0 then (a1)
  else (a0)
set_option maxRecDepth 20000 in
theorem t_J9_min_7cf53 {Z : q_Z} {l : Launch} (a0 : Int32) (a1 : Int32)  (σ : q_S) {r : Int32} (h : f_J9_min_7cf53 a0 a1 = r) : q_M Z l y_J9_min_7cf53 prog_14_method_69_code 2 (some .int) 1 [.int a0, .int a1] σ (some (.int r)) σ := by
  refine q_met (by decide +kernel) (Nat.le_of_ble_eq_true rfl) (fun Γ hΓ B En => ?_)
  unfold f_J9_min_7cf53 at h
  refine g_cut (lv' := [(0, .int a0), (1, .int a1)]) rfl ?_
  refine g_iload_n B d_J9_min_7cf53_0 rfl rfl ?_
  refine g_iload_n B d_J9_min_7cf53_1 rfl rfl ?_
  refine g_icmp_gt (tgt := 9) B d_J9_min_7cf53_2 (by decide) h (fun h => ?_) (fun h => ?_)
  · refine g_iload_n B d_J9_min_7cf53_9 rfl rfl ?_
    subst h
    exact g_iret B En d_J9_min_7cf53_10
  · refine g_iload_n B d_J9_min_7cf53_5 rfl rfl ?_
    refine g_goto (tgt := 10) B d_J9_min_7cf53_6 (by decide) ?_
    subst h
    exact g_iret B En d_J9_min_7cf53_10

def f_J9_abs_0f7a4 (a0 : Int32) : Int32 :=
  if (0 : Int32) ≤ a0 then (a0)
  else ((-a0))
set_option maxRecDepth 20000 in
theorem t_J9_abs_0f7a4 {Z : q_Z} {l : Launch} (a0 : Int32)  (σ : q_S) {r : Int32} (h : f_J9_abs_0f7a4 a0 = r) : q_M Z l y_J9_abs_0f7a4 prog_14_method_59_code 1 (some .int) 1 [.int a0] σ (some (.int r)) σ := by
  refine q_met (by decide +kernel) (Nat.le_of_ble_eq_true rfl) (fun Γ hΓ B En => ?_)
  unfold f_J9_abs_0f7a4 at h
  refine g_cut (lv' := [(0, .int a0)]) rfl ?_
  refine g_iload_n B d_J9_abs_0f7a4_0 rfl rfl ?_
  refine g_if_ge (tgt := 9) B d_J9_abs_0f7a4_1 (by decide) h (fun h => ?_) (fun h => ?_)
  · refine g_iload_n B d_J9_abs_0f7a4_9 rfl rfl ?_
    subst h
    exact g_iret B En d_J9_abs_0f7a4_10
  · refine g_iload_n B d_J9_abs_0f7a4_4 rfl rfl ?_
    refine g_ineg B d_J9_abs_0f7a4_5 ?_
    refine g_goto (tgt := 10) B d_J9_abs_0f7a4_6 (by decide) ?_
    subst h
    exact g_iret B En d_J9_abs_0f7a4_10

def f_J9_floorMod_7cf53 (a0 : Int32) (a1 : Int32) : Option Int32 :=
  if ¬ a1 = 0 then if (0 : Int32) ≤ (a0 ^^^ a1) then (some (q_rem a0 a1))
  else (if (q_rem a0 a1) = 0 then (some (q_rem a0 a1))
    else (some ((q_rem a0 a1) + a1))) else none
set_option maxRecDepth 20000 in
theorem t_J9_floorMod_7cf53 {Z : q_Z} {l : Launch} (a0 : Int32) (a1 : Int32)  (σ : q_S) {r : Int32} (h : f_J9_floorMod_7cf53 a0 a1 = some r) : q_M Z l y_J9_floorMod_7cf53 prog_14_method_50_code 3 (some .int) 1 [.int a0, .int a1] σ (some (.int r)) σ := by
  refine q_met (by decide +kernel) (Nat.le_of_ble_eq_true rfl) (fun Γ hΓ B En => ?_)
  unfold f_J9_floorMod_7cf53 at h
  refine g_cut (lv' := [(0, .int a0), (1, .int a1)]) rfl ?_
  refine g_iload_n B d_J9_floorMod_7cf53_0 rfl rfl ?_
  refine g_iload_n B d_J9_floorMod_7cf53_1 rfl rfl ?_
  obtain ⟨h2, h⟩ := q_chk h
  refine g_irem B d_J9_floorMod_7cf53_2 h2 ?_
  refine g_istore_n B d_J9_floorMod_7cf53_3 rfl (by decide) ?_
  refine g_iload_n B d_J9_floorMod_7cf53_4 rfl rfl ?_
  refine g_iload_n B d_J9_floorMod_7cf53_5 rfl rfl ?_
  refine g_ixor B d_J9_floorMod_7cf53_6 ?_
  refine g_if_ge (tgt := 18) B d_J9_floorMod_7cf53_7 (by decide) h (fun h => ?_) (fun h => ?_)
  · refine g_iload_n B d_J9_floorMod_7cf53_18 rfl rfl ?_
    obtain rfl := q_po h
    exact g_iret B En d_J9_floorMod_7cf53_19
  · refine g_iload_n B d_J9_floorMod_7cf53_10 rfl rfl ?_
    refine g_if_eq (tgt := 18) B d_J9_floorMod_7cf53_11 (by decide) h (fun h => ?_) (fun h => ?_)
    · refine g_iload_n B d_J9_floorMod_7cf53_18 rfl rfl ?_
      obtain rfl := q_po h
      exact g_iret B En d_J9_floorMod_7cf53_19
    · refine g_iload_n B d_J9_floorMod_7cf53_14 rfl rfl ?_
      refine g_iload_n B d_J9_floorMod_7cf53_15 rfl rfl ?_
      refine g_iadd B d_J9_floorMod_7cf53_16 ?_
      obtain rfl := q_po h
      exact g_iret B En d_J9_floorMod_7cf53_17

theorem k_w_java_lang_Integer_265 : Cond.constant "java/lang/Integer" 265 (1431655765) ∈ q_tbl := q_mem 318 (by decide +kernel) (by decide +kernel)
theorem k_w_java_lang_Integer_266 : Cond.constant "java/lang/Integer" 266 (858993459) ∈ q_tbl := q_mem 319 (by decide +kernel) (by decide +kernel)
theorem k_w_java_lang_Integer_267 : Cond.constant "java/lang/Integer" 267 (252645135) ∈ q_tbl := q_mem 320 (by decide +kernel) (by decide +kernel)
def f_J6_bitCount_0f7a4_41  (x0 : Int32)  : Int32 :=
  ((x0 + (((x0).toUInt32 >>> ((16 : Int32).toUInt32 &&& Int32.toUInt32 31)).toInt32)) &&& 63)
def f_J6_bitCount_0f7a4_24  (x0 : Int32)  : Int32 :=
  f_J6_bitCount_0f7a4_41 (((x0 + (((x0).toUInt32 >>> ((4 : Int32).toUInt32 &&& Int32.toUInt32 31)).toInt32)) &&& 252645135) + (((((x0 + (((x0).toUInt32 >>> ((4 : Int32).toUInt32 &&& Int32.toUInt32 31)).toInt32)) &&& 252645135)).toUInt32 >>> ((8 : Int32).toUInt32 &&& Int32.toUInt32 31)).toInt32))
def f_J6_bitCount_0f7a4 (a0 : Int32) : Int32 :=
  f_J6_bitCount_0f7a4_24 (((a0 - ((((a0).toUInt32 >>> ((1 : Int32).toUInt32 &&& Int32.toUInt32 31)).toInt32) &&& 1431655765)) &&& 858993459) + (((((a0 - ((((a0).toUInt32 >>> ((1 : Int32).toUInt32 &&& Int32.toUInt32 31)).toInt32) &&& 1431655765))).toUInt32 >>> ((2 : Int32).toUInt32 &&& Int32.toUInt32 31)).toInt32) &&& 858993459))
set_option maxRecDepth 20000 in
theorem t_J6_bitCount_0f7a4_41 {Z : q_Z} {Γ : q_C} {σ : q_S} {r : Int32} (B : q_B Z Γ prog_13_method_49_code "java/lang/Integer" 1 1) (En : q_E Z Γ (some .int) (some (.int r)) σ)  (x0 : Int32)   (h : f_J6_bitCount_0f7a4_41 x0 = r) : q_G Z Γ 1 σ 41 [(0, .int x0)] [] := by
  unfold f_J6_bitCount_0f7a4_41 at h
  refine g_iload_n B d_J6_bitCount_0f7a4_41 rfl rfl ?_
  refine g_iload_n B d_J6_bitCount_0f7a4_42 rfl rfl ?_
  refine g_bipush (v := 16) B d_J6_bitCount_0f7a4_43 (by decide) ?_
  refine g_iushr B d_J6_bitCount_0f7a4_45 ?_
  refine g_iadd B d_J6_bitCount_0f7a4_46 ?_
  refine g_istore_n B d_J6_bitCount_0f7a4_47 rfl (by decide) ?_
  refine g_iload_n B d_J6_bitCount_0f7a4_48 rfl rfl ?_
  refine g_bipush (v := 63) B d_J6_bitCount_0f7a4_49 (by decide) ?_
  refine g_iand B d_J6_bitCount_0f7a4_51 ?_
  subst h
  exact g_iret B En d_J6_bitCount_0f7a4_52
set_option maxRecDepth 20000 in
theorem t_J6_bitCount_0f7a4_24 {Z : q_Z} {Γ : q_C} {σ : q_S} {r : Int32} (B : q_B Z Γ prog_13_method_49_code "java/lang/Integer" 1 1) (En : q_E Z Γ (some .int) (some (.int r)) σ)  (x0 : Int32)   (h : f_J6_bitCount_0f7a4_24 x0 = r) : q_G Z Γ 1 σ 24 [(0, .int x0)] [] := by
  unfold f_J6_bitCount_0f7a4_24 at h
  refine g_iload_n B d_J6_bitCount_0f7a4_24 rfl rfl ?_
  refine g_iload_n B d_J6_bitCount_0f7a4_25 rfl rfl ?_
  refine g_iconst (v := 4) B d_J6_bitCount_0f7a4_26 (by decide) ?_
  refine g_iushr B d_J6_bitCount_0f7a4_27 ?_
  refine g_iadd B d_J6_bitCount_0f7a4_28 ?_
  refine g_ldcw (v := 252645135) B d_J6_bitCount_0f7a4_29 k_w_java_lang_Integer_267 ?_
  refine g_iand B d_J6_bitCount_0f7a4_32 ?_
  refine g_istore_n B d_J6_bitCount_0f7a4_33 rfl (by decide) ?_
  refine g_iload_n B d_J6_bitCount_0f7a4_34 rfl rfl ?_
  refine g_iload_n B d_J6_bitCount_0f7a4_35 rfl rfl ?_
  refine g_bipush (v := 8) B d_J6_bitCount_0f7a4_36 (by decide) ?_
  refine g_iushr B d_J6_bitCount_0f7a4_38 ?_
  refine g_iadd B d_J6_bitCount_0f7a4_39 ?_
  refine g_istore_n B d_J6_bitCount_0f7a4_40 rfl (by decide) ?_
  exact g_cut rfl (t_J6_bitCount_0f7a4_41 B En (((x0 + (((x0).toUInt32 >>> ((4 : Int32).toUInt32 &&& Int32.toUInt32 31)).toInt32)) &&& 252645135) + (((((x0 + (((x0).toUInt32 >>> ((4 : Int32).toUInt32 &&& Int32.toUInt32 31)).toInt32)) &&& 252645135)).toUInt32 >>> ((8 : Int32).toUInt32 &&& Int32.toUInt32 31)).toInt32)) h)
set_option maxRecDepth 20000 in
theorem t_J6_bitCount_0f7a4 {Z : q_Z} {l : Launch} (a0 : Int32)  (σ : q_S) {r : Int32} (h : f_J6_bitCount_0f7a4 a0 = r) : q_M Z l y_J6_bitCount_0f7a4 prog_13_method_49_code 1 (some .int) 1 [.int a0] σ (some (.int r)) σ := by
  refine q_met (by decide +kernel) (Nat.le_of_ble_eq_true rfl) (fun Γ hΓ B En => ?_)
  unfold f_J6_bitCount_0f7a4 at h
  refine g_cut (lv' := [(0, .int a0)]) rfl ?_
  refine g_iload_n B d_J6_bitCount_0f7a4_0 rfl rfl ?_
  refine g_iload_n B d_J6_bitCount_0f7a4_1 rfl rfl ?_
  refine g_iconst (v := 1) B d_J6_bitCount_0f7a4_2 (by decide) ?_
  refine g_iushr B d_J6_bitCount_0f7a4_3 ?_
  refine g_ldcw (v := 1431655765) B d_J6_bitCount_0f7a4_4 k_w_java_lang_Integer_265 ?_
  refine g_iand B d_J6_bitCount_0f7a4_7 ?_
  refine g_isub B d_J6_bitCount_0f7a4_8 ?_
  refine g_istore_n B d_J6_bitCount_0f7a4_9 rfl (by decide) ?_
  refine g_iload_n B d_J6_bitCount_0f7a4_10 rfl rfl ?_
  refine g_ldcw (v := 858993459) B d_J6_bitCount_0f7a4_11 k_w_java_lang_Integer_266 ?_
  refine g_iand B d_J6_bitCount_0f7a4_14 ?_
  refine g_iload_n B d_J6_bitCount_0f7a4_15 rfl rfl ?_
  refine g_iconst (v := 2) B d_J6_bitCount_0f7a4_16 (by decide) ?_
  refine g_iushr B d_J6_bitCount_0f7a4_17 ?_
  refine g_ldcw (v := 858993459) B d_J6_bitCount_0f7a4_18 k_w_java_lang_Integer_266 ?_
  refine g_iand B d_J6_bitCount_0f7a4_21 ?_
  refine g_iadd B d_J6_bitCount_0f7a4_22 ?_
  refine g_istore_n B d_J6_bitCount_0f7a4_23 rfl (by decide) ?_
  exact g_cut rfl (t_J6_bitCount_0f7a4_24 B En (((a0 - ((((a0).toUInt32 >>> ((1 : Int32).toUInt32 &&& Int32.toUInt32 31)).toInt32) &&& 1431655765)) &&& 858993459) + (((((a0 - ((((a0).toUInt32 >>> ((1 : Int32).toUInt32 &&& Int32.toUInt32 31)).toInt32) &&& 1431655765))).toUInt32 >>> ((2 : Int32).toUInt32 &&& Int32.toUInt32 31)).toInt32) &&& 858993459)) h)

def f_J7_fill_53178_5 (N : Nat)  (p0 : Nat) (np0 : Nat) (x1 : Int32) (x3 : Int32)  : Nat → Int32 → q_S → Option q_S
  | 0, _, _ => none
  | n + 1, x2, σ =>
    if x3 ≤ x2 then (some σ)
    else (if ¬ ((x2 : Int32) < 0 ∨ np0 ≤ (x2 : Int32).toNatClampNeg) then f_J7_fill_53178_5 N p0 np0 x1 x3 n (x2 + 1) (q_w σ p0 (x2 : Int32).toNatClampNeg x1) else none)
def f_J7_fill_53178 (N : Nat) (a0 : Nat) (n0 : Nat) (a1 : Int32) (σ : q_S) : Option q_S :=
  f_J7_fill_53178_5 N a0 n0 a1 (Int32.ofNat n0) N 0 σ
set_option maxRecDepth 20000 in
theorem t_J7_fill_53178_5 {Z : q_Z} {Γ : q_C} {σ' : q_S} (B : q_B Z Γ prog_16_method_103_code "java/util/Arrays" 4 1) (En : q_E Z Γ none none σ') (N : Nat)  (p0 : Nat) (np0 : Nat) (x1 : Int32) (x3 : Int32)  (hp0 : q_IArr Z p0 np0) : ∀ (n : Nat) (x2 : Int32) (σ : q_S), f_J7_fill_53178_5 N p0 np0 x1 x3 n x2 σ = some σ' → q_G Z Γ 4 σ 5 [(0, .ref (Z.1 p0)), (1, .int x1), (2, .int x2), (3, .int x3)] [] := by
  intro n
  induction n with
  | zero =>
    intro x2 σ h
    cases h
  | succ n ih =>
    intro x2 σ h
    unfold f_J7_fill_53178_5 at h
    refine g_iload_n B d_J7_fill_53178_5 rfl rfl ?_
    refine g_iload_n B d_J7_fill_53178_6 rfl rfl ?_
    refine g_icmp_ge (tgt := 20) B d_J7_fill_53178_7 (by decide) h (fun h => ?_) (fun h => ?_)
    · obtain rfl := q_po h
      exact g_vret B En d_J7_fill_53178_20
    · refine g_aload_n B d_J7_fill_53178_10 rfl rfl ?_
      refine g_iload_n B d_J7_fill_53178_11 rfl rfl ?_
      refine g_iload_n B d_J7_fill_53178_12 rfl rfl ?_
      obtain ⟨h13, h⟩ := q_chk h
      refine g_iast B d_J7_fill_53178_13 hp0.1 hp0.2 h13 ?_
      refine g_iinc (v := (x2 + 1)) B d_J7_fill_53178_14 rfl rfl (by decide) ?_
      refine g_goto (tgt := 5) B d_J7_fill_53178_17 (by decide) ?_
      exact g_cut rfl (ih (x2 + 1) (q_w σ p0 (x2 : Int32).toNatClampNeg x1) h)
set_option maxRecDepth 20000 in
theorem t_J7_fill_53178 {Z : q_Z} {l : Launch} (N : Nat) (a0 : Nat) (n0 : Nat) (a1 : Int32) (h0 : q_IArr Z a0 n0) (σ : q_S) {σ' : q_S} (h : f_J7_fill_53178 N a0 n0 a1 σ = some σ') : q_M Z l y_J7_fill_53178 prog_16_method_103_code 4 none 1 [.ref (Z.1 a0), .int a1] σ none σ' := by
  refine q_met (by decide +kernel) (Nat.le_of_ble_eq_true rfl) (fun Γ hΓ B En => ?_)
  unfold f_J7_fill_53178 at h
  refine g_cut (lv' := [(0, .ref (Z.1 a0)), (1, .int a1)]) rfl ?_
  refine g_iconst (v := 0) B d_J7_fill_53178_0 (by decide) ?_
  refine g_istore_n B d_J7_fill_53178_1 rfl (by decide) ?_
  refine g_aload_n B d_J7_fill_53178_2 rfl rfl ?_
  refine g_alen (t := 0) B d_J7_fill_53178_3 h0.1 (h0.2 _ _) rfl ?_
  refine g_istore_n B d_J7_fill_53178_4 rfl (by decide) ?_
  exact g_cut rfl (t_J7_fill_53178_5 B En N a0 n0 a1 (Int32.ofNat n0) h0 N 0 σ h)

def f_J7_fill_d0a16_6 (N : Nat)  (p0 : Nat) (np0 : Nat) (x1 : Int64) (x4 : Int32)  : Nat → Int32 → q_S → Option q_S
  | 0, _, _ => none
  | n + 1, x3, σ =>
    if x4 ≤ x3 then (some σ)
    else (if ¬ ((x3 : Int32) < 0 ∨ np0 ≤ (x3 : Int32).toNatClampNeg) then f_J7_fill_d0a16_6 N p0 np0 x1 x4 n (x3 + 1) (q_wl σ p0 (x3 : Int32).toNatClampNeg x1) else none)
def f_J7_fill_d0a16 (N : Nat) (a0 : Nat) (n0 : Nat) (a1 : Int64) (σ : q_S) : Option q_S :=
  f_J7_fill_d0a16_6 N a0 n0 a1 (Int32.ofNat n0) N 0 σ
set_option maxRecDepth 20000 in
theorem t_J7_fill_d0a16_6 {Z : q_Z} {Γ : q_C} {σ' : q_S} (B : q_B Z Γ prog_16_method_101_code "java/util/Arrays" 5 1) (En : q_E Z Γ none none σ') (N : Nat)  (p0 : Nat) (np0 : Nat) (x1 : Int64) (x4 : Int32)  (hp0 : q_JArr Z p0 np0) : ∀ (n : Nat) (x3 : Int32) (σ : q_S), f_J7_fill_d0a16_6 N p0 np0 x1 x4 n x3 σ = some σ' → q_G Z Γ 5 σ 6 [(0, .ref (Z.1 p0)), (1, .long x1), (3, .int x3), (4, .int x4)] [] := by
  intro n
  induction n with
  | zero =>
    intro x3 σ h
    cases h
  | succ n ih =>
    intro x3 σ h
    unfold f_J7_fill_d0a16_6 at h
    refine g_iload_n B d_J7_fill_d0a16_6 rfl rfl ?_
    refine g_iload B d_J7_fill_d0a16_7 rfl ?_
    refine g_icmp_ge (tgt := 22) B d_J7_fill_d0a16_9 (by decide) h (fun h => ?_) (fun h => ?_)
    · obtain rfl := q_po h
      exact g_vret B En d_J7_fill_d0a16_22
    · refine g_aload_n B d_J7_fill_d0a16_12 rfl rfl ?_
      refine g_iload_n B d_J7_fill_d0a16_13 rfl rfl ?_
      refine g_lload_n B d_J7_fill_d0a16_14 rfl rfl ?_
      obtain ⟨h15, h⟩ := q_chk h
      refine g_last B d_J7_fill_d0a16_15 hp0.1 hp0.2 h15 ?_
      refine g_iinc (v := (x3 + 1)) B d_J7_fill_d0a16_16 rfl rfl (by decide) ?_
      refine g_goto (tgt := 6) B d_J7_fill_d0a16_19 (by decide) ?_
      exact g_cut rfl (ih (x3 + 1) (q_wl σ p0 (x3 : Int32).toNatClampNeg x1) h)
set_option maxRecDepth 20000 in
theorem t_J7_fill_d0a16 {Z : q_Z} {l : Launch} (N : Nat) (a0 : Nat) (n0 : Nat) (a1 : Int64) (h0 : q_JArr Z a0 n0) (σ : q_S) {σ' : q_S} (h : f_J7_fill_d0a16 N a0 n0 a1 σ = some σ') : q_M Z l y_J7_fill_d0a16 prog_16_method_101_code 5 none 1 [.ref (Z.1 a0), .long a1] σ none σ' := by
  refine q_met (by decide +kernel) (Nat.le_of_ble_eq_true rfl) (fun Γ hΓ B En => ?_)
  unfold f_J7_fill_d0a16 at h
  refine g_cut (lv' := [(0, .ref (Z.1 a0)), (1, .long a1)]) rfl ?_
  refine g_iconst (v := 0) B d_J7_fill_d0a16_0 (by decide) ?_
  refine g_istore_n B d_J7_fill_d0a16_1 rfl (by decide) ?_
  refine g_aload_n B d_J7_fill_d0a16_2 rfl rfl ?_
  refine g_alen (t := 3) B d_J7_fill_d0a16_3 h0.1 (h0.2 _ _) rfl ?_
  refine g_istore B d_J7_fill_d0a16_4 (by decide) ?_
  exact g_cut rfl (t_J7_fill_d0a16_6 B En N a0 n0 a1 (Int32.ofNat n0) h0 N 0 σ h)
