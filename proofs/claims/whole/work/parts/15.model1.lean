def y_X10_in : MethodName := ⟨"WaterOthersModel", "in", "(III)Z"⟩
def y_X10_has : MethodName := ⟨"WaterOthersModel", "has", "(II)Z"⟩
def y_X10_bits : MethodName := ⟨"WaterOthersModel", "bits", "(I)I"⟩
def y_X10_isCell : MethodName := ⟨"WaterOthersModel", "isCell", "(I)Z"⟩
def y_X10_isThere : MethodName := ⟨"WaterOthersModel", "isThere", "(I)Z"⟩
def y_X10_arch : MethodName := ⟨"WaterOthersModel", "arch", "(IZ)I"⟩
def y_X10_gap : MethodName := ⟨"WaterOthersModel", "gap", "(I)I"⟩
def y_X10_walker : MethodName := ⟨"WaterOthersModel", "walker", "(III)I"⟩
def y_X10_leave : MethodName := ⟨"WaterOthersModel", "leave", "(I)I"⟩
def y_X10_say : MethodName := ⟨"WaterOthersModel", "say", "(I)I"⟩
def y_X10_wipe : MethodName := ⟨"WaterOthersModel", "wipe", "()I"⟩
def y_X10_faultOf : MethodName := ⟨"WaterOthersModel", "faultOf", "()I"⟩
def y_X10_fault : MethodName := ⟨"WaterOthersModel", "fault", "()I"⟩
def y_X10_asNow : MethodName := ⟨"WaterOthersModel", "asNow", "()V"⟩
def y_X10_hasParted : MethodName := ⟨"WaterOthersModel", "hasParted", "(I)Z"⟩
def y_X10_otherOf : MethodName := ⟨"WaterOthersModel", "otherOf", "(I)I"⟩
def y_X10_tellAnew : MethodName := ⟨"WaterOthersModel", "tellAnew", "(I)V"⟩
def y_X10_moves : MethodName := ⟨"WaterOthersModel", "moves", "(II)V"⟩
def y_X10_stepTo : MethodName := ⟨"WaterOthersModel", "stepTo", "(II)I"⟩
def y_X10_waits : MethodName := ⟨"WaterOthersModel", "waits", "(I)I"⟩
def y_X10_stone : MethodName := ⟨"WaterOthersModel", "stone", "(I)I"⟩
def y_X10_blow : MethodName := ⟨"WaterOthersModel", "blow", "()V"⟩
def y_X10_beat : MethodName := ⟨"WaterOthersModel", "beat", "()I"⟩
def y_X10_verb : MethodName := ⟨"WaterOthersModel", "verb", "(II)I"⟩
def y_X10_goDays : MethodName := ⟨"WaterOthersModel", "goDays", "()I"⟩
def y_X10_judge : MethodName := ⟨"WaterOthersModel", "judge", "(I)I"⟩
def y_X10_barOfDays : MethodName := ⟨"WaterOthersModel", "barOfDays", "()I"⟩
def y_X10_done : MethodName := ⟨"WaterOthersModel", "done", "()I"⟩
def y_X10_behind : MethodName := ⟨"WaterOthersModel", "behind", "(II)I"⟩
def y_X10_partedNow : MethodName := ⟨"WaterOthersModel", "partedNow", "()I"⟩
def y_X10_then : MethodName := ⟨"WaterOthersModel", "then", "(I)I"⟩
def y_X10_standing : MethodName := ⟨"WaterOthersModel", "standing", "(II)I"⟩
theorem d_X10_in_0 : q_dec prog_12_method_2_code 0 (.iload_n 0) 1 1 := ⟨by decide +kernel, rfl⟩
theorem d_X10_in_1 : q_dec prog_12_method_2_code 1 (.iload_n 1) 1 2 := ⟨by decide +kernel, rfl⟩
theorem d_X10_in_2 : q_dec prog_12_method_2_code 2 (.if_icmp .lt 12) 3 5 := ⟨by decide +kernel, rfl⟩
theorem d_X10_in_5 : q_dec prog_12_method_2_code 5 (.iload_n 0) 1 6 := ⟨by decide +kernel, rfl⟩
theorem d_X10_in_6 : q_dec prog_12_method_2_code 6 (.iload_n 2) 1 7 := ⟨by decide +kernel, rfl⟩
theorem d_X10_in_7 : q_dec prog_12_method_2_code 7 (.if_icmp .gt 7) 3 10 := ⟨by decide +kernel, rfl⟩
theorem d_X10_in_10 : q_dec prog_12_method_2_code 10 (.iconst 1) 1 11 := ⟨by decide +kernel, rfl⟩
theorem d_X10_in_11 : q_dec prog_12_method_2_code 11 (.goto 4) 3 14 := ⟨by decide +kernel, rfl⟩
theorem d_X10_in_14 : q_dec prog_12_method_2_code 14 (.iconst 0) 1 15 := ⟨by decide +kernel, rfl⟩
theorem d_X10_in_15 : q_dec prog_12_method_2_code 15 (.ireturn) 1 16 := ⟨by decide +kernel, rfl⟩
theorem m_X10_in : q_wS y_X10_in prog_12_method_2_code 3 (some .boolean) 3 := ⟨q_mem 761 (by decide +kernel) (by decide +kernel), q_mem 760 (by decide +kernel) (by decide +kernel), q_mem 11 (by decide +kernel) (by decide +kernel), by decide +kernel⟩
theorem d_X10_has_0 : q_dec prog_12_method_3_code 0 (.iload_n 0) 1 1 := ⟨by decide +kernel, rfl⟩
theorem d_X10_has_1 : q_dec prog_12_method_3_code 1 (.iload_n 1) 1 2 := ⟨by decide +kernel, rfl⟩
theorem d_X10_has_2 : q_dec prog_12_method_3_code 2 (.ishr) 1 3 := ⟨by decide +kernel, rfl⟩
theorem d_X10_has_3 : q_dec prog_12_method_3_code 3 (.iconst 1) 1 4 := ⟨by decide +kernel, rfl⟩
theorem d_X10_has_4 : q_dec prog_12_method_3_code 4 (.iand) 1 5 := ⟨by decide +kernel, rfl⟩
theorem d_X10_has_5 : q_dec prog_12_method_3_code 5 (.iconst 1) 1 6 := ⟨by decide +kernel, rfl⟩
theorem d_X10_has_6 : q_dec prog_12_method_3_code 6 (.if_icmp .ne 7) 3 9 := ⟨by decide +kernel, rfl⟩
theorem d_X10_has_9 : q_dec prog_12_method_3_code 9 (.iconst 1) 1 10 := ⟨by decide +kernel, rfl⟩
theorem d_X10_has_10 : q_dec prog_12_method_3_code 10 (.goto 4) 3 13 := ⟨by decide +kernel, rfl⟩
theorem d_X10_has_13 : q_dec prog_12_method_3_code 13 (.iconst 0) 1 14 := ⟨by decide +kernel, rfl⟩
theorem d_X10_has_14 : q_dec prog_12_method_3_code 14 (.ireturn) 1 15 := ⟨by decide +kernel, rfl⟩
theorem m_X10_has : q_wS y_X10_has prog_12_method_3_code 2 (some .boolean) 2 := ⟨q_mem 783 (by decide +kernel) (by decide +kernel), q_mem 782 (by decide +kernel) (by decide +kernel), q_mem 11 (by decide +kernel) (by decide +kernel), by decide +kernel⟩
theorem d_X10_bits_0 : q_dec prog_12_method_4_code 0 (.iconst 0) 1 1 := ⟨by decide +kernel, rfl⟩
theorem d_X10_bits_1 : q_dec prog_12_method_4_code 1 (.istore_n 1) 1 2 := ⟨by decide +kernel, rfl⟩
theorem d_X10_bits_2 : q_dec prog_12_method_4_code 2 (.iconst 0) 1 3 := ⟨by decide +kernel, rfl⟩
theorem d_X10_bits_3 : q_dec prog_12_method_4_code 3 (.istore_n 2) 1 4 := ⟨by decide +kernel, rfl⟩
theorem d_X10_bits_4 : q_dec prog_12_method_4_code 4 (.iload_n 2) 1 5 := ⟨by decide +kernel, rfl⟩
theorem d_X10_bits_5 : q_dec prog_12_method_4_code 5 (.bipush 6) 2 7 := ⟨by decide +kernel, rfl⟩
theorem d_X10_bits_7 : q_dec prog_12_method_4_code 7 (.if_icmp .ge 17) 3 10 := ⟨by decide +kernel, rfl⟩
theorem d_X10_bits_10 : q_dec prog_12_method_4_code 10 (.iload_n 1) 1 11 := ⟨by decide +kernel, rfl⟩
theorem d_X10_bits_11 : q_dec prog_12_method_4_code 11 (.iload_n 0) 1 12 := ⟨by decide +kernel, rfl⟩
theorem d_X10_bits_12 : q_dec prog_12_method_4_code 12 (.iload_n 2) 1 13 := ⟨by decide +kernel, rfl⟩
theorem d_X10_bits_13 : q_dec prog_12_method_4_code 13 (.ishr) 1 14 := ⟨by decide +kernel, rfl⟩
theorem d_X10_bits_14 : q_dec prog_12_method_4_code 14 (.iconst 1) 1 15 := ⟨by decide +kernel, rfl⟩
theorem d_X10_bits_15 : q_dec prog_12_method_4_code 15 (.iand) 1 16 := ⟨by decide +kernel, rfl⟩
theorem d_X10_bits_16 : q_dec prog_12_method_4_code 16 (.iadd) 1 17 := ⟨by decide +kernel, rfl⟩
theorem d_X10_bits_17 : q_dec prog_12_method_4_code 17 (.istore_n 1) 1 18 := ⟨by decide +kernel, rfl⟩
theorem d_X10_bits_18 : q_dec prog_12_method_4_code 18 (.iinc 2 1) 3 21 := ⟨by decide +kernel, rfl⟩
theorem d_X10_bits_21 : q_dec prog_12_method_4_code 21 (.goto (-17)) 3 24 := ⟨by decide +kernel, rfl⟩
theorem d_X10_bits_24 : q_dec prog_12_method_4_code 24 (.iload_n 1) 1 25 := ⟨by decide +kernel, rfl⟩
theorem d_X10_bits_25 : q_dec prog_12_method_4_code 25 (.ireturn) 1 26 := ⟨by decide +kernel, rfl⟩
theorem m_X10_bits : q_wS y_X10_bits prog_12_method_4_code 3 (some .int) 1 := ⟨q_mem 772 (by decide +kernel) (by decide +kernel), q_mem 771 (by decide +kernel) (by decide +kernel), q_mem 11 (by decide +kernel) (by decide +kernel), by decide +kernel⟩
theorem d_X10_isCell_0 : q_dec prog_12_method_5_code 0 (.iload_n 0) 1 1 := ⟨by decide +kernel, rfl⟩
theorem d_X10_isCell_1 : q_dec prog_12_method_5_code 1 (.iconst 0) 1 2 := ⟨by decide +kernel, rfl⟩
theorem d_X10_isCell_2 : q_dec prog_12_method_5_code 2 (.bipush 19) 2 4 := ⟨by decide +kernel, rfl⟩
theorem d_X10_isCell_4 : q_dec prog_12_method_5_code 4 (.invokestatic 55) 3 7 := ⟨by decide +kernel, rfl⟩
theorem d_X10_isCell_7 : q_dec prog_12_method_5_code 7 (.ireturn) 1 8 := ⟨by decide +kernel, rfl⟩
theorem m_X10_isCell : q_wS y_X10_isCell prog_12_method_5_code 1 (some .boolean) 1 := ⟨q_mem 758 (by decide +kernel) (by decide +kernel), q_mem 757 (by decide +kernel) (by decide +kernel), q_mem 11 (by decide +kernel) (by decide +kernel), by decide +kernel⟩
theorem d_X10_isThere_0 : q_dec prog_12_method_6_code 0 (.iload_n 1) 1 1 := ⟨by decide +kernel, rfl⟩
theorem d_X10_isThere_1 : q_dec prog_12_method_6_code 1 (.iconst 0) 1 2 := ⟨by decide +kernel, rfl⟩
theorem d_X10_isThere_2 : q_dec prog_12_method_6_code 2 (.iconst 5) 1 3 := ⟨by decide +kernel, rfl⟩
theorem d_X10_isThere_3 : q_dec prog_12_method_6_code 3 (.invokestatic 55) 3 6 := ⟨by decide +kernel, rfl⟩
theorem d_X10_isThere_6 : q_dec prog_12_method_6_code 6 (.ifCond .eq 18) 3 9 := ⟨by decide +kernel, rfl⟩
theorem d_X10_isThere_9 : q_dec prog_12_method_6_code 9 (.aload_n 0) 1 10 := ⟨by decide +kernel, rfl⟩
theorem d_X10_isThere_10 : q_dec prog_12_method_6_code 10 (.getfield 59) 3 13 := ⟨by decide +kernel, rfl⟩
theorem d_X10_isThere_13 : q_dec prog_12_method_6_code 13 (.iload_n 1) 1 14 := ⟨by decide +kernel, rfl⟩
theorem d_X10_isThere_14 : q_dec prog_12_method_6_code 14 (.invokestatic 62) 3 17 := ⟨by decide +kernel, rfl⟩
theorem d_X10_isThere_17 : q_dec prog_12_method_6_code 17 (.ifCond .eq 7) 3 20 := ⟨by decide +kernel, rfl⟩
theorem d_X10_isThere_20 : q_dec prog_12_method_6_code 20 (.iconst 1) 1 21 := ⟨by decide +kernel, rfl⟩
theorem d_X10_isThere_21 : q_dec prog_12_method_6_code 21 (.goto 4) 3 24 := ⟨by decide +kernel, rfl⟩
theorem d_X10_isThere_24 : q_dec prog_12_method_6_code 24 (.iconst 0) 1 25 := ⟨by decide +kernel, rfl⟩
theorem d_X10_isThere_25 : q_dec prog_12_method_6_code 25 (.ireturn) 1 26 := ⟨by decide +kernel, rfl⟩
theorem m_X10_isThere : q_wV y_X10_isThere prog_12_method_6_code 2 (some .boolean) 1 := ⟨q_mem 780 (by decide +kernel) (by decide +kernel), q_mem 779 (by decide +kernel) (by decide +kernel), q_memS (n := 22) 15 (by decide +kernel), q_mem 11 (by decide +kernel) (by decide +kernel), by decide +kernel⟩
theorem d_X10_arch_0 : q_dec prog_12_method_7_code 0 (.iload_n 1) 1 1 := ⟨by decide +kernel, rfl⟩
theorem d_X10_arch_1 : q_dec prog_12_method_7_code 1 (.invokestatic 66) 3 4 := ⟨by decide +kernel, rfl⟩
theorem d_X10_arch_4 : q_dec prog_12_method_7_code 4 (.ifCond .ne 5) 3 7 := ⟨by decide +kernel, rfl⟩
theorem d_X10_arch_7 : q_dec prog_12_method_7_code 7 (.iconst (-1)) 1 8 := ⟨by decide +kernel, rfl⟩
theorem d_X10_arch_8 : q_dec prog_12_method_7_code 8 (.ireturn) 1 9 := ⟨by decide +kernel, rfl⟩
theorem d_X10_arch_9 : q_dec prog_12_method_7_code 9 (.aload_n 0) 1 10 := ⟨by decide +kernel, rfl⟩
theorem d_X10_arch_10 : q_dec prog_12_method_7_code 10 (.dup) 1 11 := ⟨by decide +kernel, rfl⟩
theorem d_X10_arch_11 : q_dec prog_12_method_7_code 11 (.getfield 70) 3 14 := ⟨by decide +kernel, rfl⟩
theorem d_X10_arch_14 : q_dec prog_12_method_7_code 14 (.iconst 1) 1 15 := ⟨by decide +kernel, rfl⟩
theorem d_X10_arch_15 : q_dec prog_12_method_7_code 15 (.iload_n 1) 1 16 := ⟨by decide +kernel, rfl⟩
theorem d_X10_arch_16 : q_dec prog_12_method_7_code 16 (.ishl) 1 17 := ⟨by decide +kernel, rfl⟩
theorem d_X10_arch_17 : q_dec prog_12_method_7_code 17 (.iconst (-1)) 1 18 := ⟨by decide +kernel, rfl⟩
theorem d_X10_arch_18 : q_dec prog_12_method_7_code 18 (.ixor) 1 19 := ⟨by decide +kernel, rfl⟩
theorem d_X10_arch_19 : q_dec prog_12_method_7_code 19 (.iand) 1 20 := ⟨by decide +kernel, rfl⟩
theorem d_X10_arch_20 : q_dec prog_12_method_7_code 20 (.putfield 70) 3 23 := ⟨by decide +kernel, rfl⟩
theorem d_X10_arch_23 : q_dec prog_12_method_7_code 23 (.aload_n 0) 1 24 := ⟨by decide +kernel, rfl⟩
theorem d_X10_arch_24 : q_dec prog_12_method_7_code 24 (.dup) 1 25 := ⟨by decide +kernel, rfl⟩
theorem d_X10_arch_25 : q_dec prog_12_method_7_code 25 (.getfield 70) 3 28 := ⟨by decide +kernel, rfl⟩
theorem d_X10_arch_28 : q_dec prog_12_method_7_code 28 (.iload_n 2) 1 29 := ⟨by decide +kernel, rfl⟩
theorem d_X10_arch_29 : q_dec prog_12_method_7_code 29 (.ifCond .eq 9) 3 32 := ⟨by decide +kernel, rfl⟩
theorem d_X10_arch_32 : q_dec prog_12_method_7_code 32 (.iconst 1) 1 33 := ⟨by decide +kernel, rfl⟩
theorem d_X10_arch_33 : q_dec prog_12_method_7_code 33 (.iload_n 1) 1 34 := ⟨by decide +kernel, rfl⟩
theorem d_X10_arch_34 : q_dec prog_12_method_7_code 34 (.ishl) 1 35 := ⟨by decide +kernel, rfl⟩
theorem d_X10_arch_35 : q_dec prog_12_method_7_code 35 (.goto 4) 3 38 := ⟨by decide +kernel, rfl⟩
theorem d_X10_arch_38 : q_dec prog_12_method_7_code 38 (.iconst 0) 1 39 := ⟨by decide +kernel, rfl⟩
theorem d_X10_arch_39 : q_dec prog_12_method_7_code 39 (.ior) 1 40 := ⟨by decide +kernel, rfl⟩
theorem d_X10_arch_40 : q_dec prog_12_method_7_code 40 (.putfield 70) 3 43 := ⟨by decide +kernel, rfl⟩
theorem d_X10_arch_43 : q_dec prog_12_method_7_code 43 (.aload_n 0) 1 44 := ⟨by decide +kernel, rfl⟩
theorem d_X10_arch_44 : q_dec prog_12_method_7_code 44 (.getfield 70) 3 47 := ⟨by decide +kernel, rfl⟩
theorem d_X10_arch_47 : q_dec prog_12_method_7_code 47 (.ireturn) 1 48 := ⟨by decide +kernel, rfl⟩
theorem m_X10_arch : q_wV y_X10_arch prog_12_method_7_code 3 (some .int) 2 := ⟨q_mem 755 (by decide +kernel) (by decide +kernel), q_mem 753 (by decide +kernel) (by decide +kernel), q_mem 754 (by decide +kernel) (by decide +kernel), q_mem 11 (by decide +kernel) (by decide +kernel), by decide +kernel⟩
theorem d_X10_gap_0 : q_dec prog_12_method_8_code 0 (.iload_n 1) 1 1 := ⟨by decide +kernel, rfl⟩
theorem d_X10_gap_1 : q_dec prog_12_method_8_code 1 (.iconst 0) 1 2 := ⟨by decide +kernel, rfl⟩
theorem d_X10_gap_2 : q_dec prog_12_method_8_code 2 (.bipush 19) 2 4 := ⟨by decide +kernel, rfl⟩
theorem d_X10_gap_4 : q_dec prog_12_method_8_code 4 (.invokestatic 55) 3 7 := ⟨by decide +kernel, rfl⟩
theorem d_X10_gap_7 : q_dec prog_12_method_8_code 7 (.ifCond .ne 6) 3 10 := ⟨by decide +kernel, rfl⟩
theorem d_X10_gap_10 : q_dec prog_12_method_8_code 10 (.bipush (-2)) 2 12 := ⟨by decide +kernel, rfl⟩
theorem d_X10_gap_12 : q_dec prog_12_method_8_code 12 (.ireturn) 1 13 := ⟨by decide +kernel, rfl⟩
theorem d_X10_gap_13 : q_dec prog_12_method_8_code 13 (.aload_n 0) 1 14 := ⟨by decide +kernel, rfl⟩
theorem d_X10_gap_14 : q_dec prog_12_method_8_code 14 (.getfield 19) 3 17 := ⟨by decide +kernel, rfl⟩
theorem d_X10_gap_17 : q_dec prog_12_method_8_code 17 (.istore_n 2) 1 18 := ⟨by decide +kernel, rfl⟩
theorem d_X10_gap_18 : q_dec prog_12_method_8_code 18 (.aload_n 0) 1 19 := ⟨by decide +kernel, rfl⟩
theorem d_X10_gap_19 : q_dec prog_12_method_8_code 19 (.iload_n 1) 1 20 := ⟨by decide +kernel, rfl⟩
theorem d_X10_gap_20 : q_dec prog_12_method_8_code 20 (.putfield 19) 3 23 := ⟨by decide +kernel, rfl⟩
theorem d_X10_gap_23 : q_dec prog_12_method_8_code 23 (.iload_n 2) 1 24 := ⟨by decide +kernel, rfl⟩
theorem d_X10_gap_24 : q_dec prog_12_method_8_code 24 (.ireturn) 1 25 := ⟨by decide +kernel, rfl⟩
theorem m_X10_gap : q_wV y_X10_gap prog_12_method_8_code 3 (some .int) 1 := ⟨q_mem 765 (by decide +kernel) (by decide +kernel), q_mem 763 (by decide +kernel) (by decide +kernel), q_mem 764 (by decide +kernel) (by decide +kernel), q_mem 11 (by decide +kernel) (by decide +kernel), by decide +kernel⟩
theorem d_X10_walker_0 : q_dec prog_12_method_9_code 0 (.iload_n 1) 1 1 := ⟨by decide +kernel, rfl⟩
theorem d_X10_walker_1 : q_dec prog_12_method_9_code 1 (.iconst 0) 1 2 := ⟨by decide +kernel, rfl⟩
theorem d_X10_walker_2 : q_dec prog_12_method_9_code 2 (.iconst 5) 1 3 := ⟨by decide +kernel, rfl⟩
theorem d_X10_walker_3 : q_dec prog_12_method_9_code 3 (.invokestatic 55) 3 6 := ⟨by decide +kernel, rfl⟩
theorem d_X10_walker_6 : q_dec prog_12_method_9_code 6 (.ifCond .eq 10) 3 9 := ⟨by decide +kernel, rfl⟩
theorem d_X10_walker_9 : q_dec prog_12_method_9_code 9 (.iload_n 2) 1 10 := ⟨by decide +kernel, rfl⟩
theorem d_X10_walker_10 : q_dec prog_12_method_9_code 10 (.invokestatic 66) 3 13 := ⟨by decide +kernel, rfl⟩
theorem d_X10_walker_13 : q_dec prog_12_method_9_code 13 (.ifCond .ne 5) 3 16 := ⟨by decide +kernel, rfl⟩
theorem d_X10_walker_16 : q_dec prog_12_method_9_code 16 (.iconst (-1)) 1 17 := ⟨by decide +kernel, rfl⟩
theorem d_X10_walker_17 : q_dec prog_12_method_9_code 17 (.ireturn) 1 18 := ⟨by decide +kernel, rfl⟩
theorem d_X10_walker_18 : q_dec prog_12_method_9_code 18 (.iload_n 3) 1 19 := ⟨by decide +kernel, rfl⟩
theorem d_X10_walker_19 : q_dec prog_12_method_9_code 19 (.iconst 0) 1 20 := ⟨by decide +kernel, rfl⟩
theorem d_X10_walker_20 : q_dec prog_12_method_9_code 20 (.iconst 5) 1 21 := ⟨by decide +kernel, rfl⟩
theorem d_X10_walker_21 : q_dec prog_12_method_9_code 21 (.invokestatic 55) 3 24 := ⟨by decide +kernel, rfl⟩
theorem d_X10_walker_24 : q_dec prog_12_method_9_code 24 (.ifCond .ne 6) 3 27 := ⟨by decide +kernel, rfl⟩
theorem d_X10_walker_27 : q_dec prog_12_method_9_code 27 (.bipush (-2)) 2 29 := ⟨by decide +kernel, rfl⟩
theorem d_X10_walker_29 : q_dec prog_12_method_9_code 29 (.ireturn) 1 30 := ⟨by decide +kernel, rfl⟩
theorem d_X10_walker_30 : q_dec prog_12_method_9_code 30 (.aload_n 0) 1 31 := ⟨by decide +kernel, rfl⟩
theorem d_X10_walker_31 : q_dec prog_12_method_9_code 31 (.dup) 1 32 := ⟨by decide +kernel, rfl⟩
theorem d_X10_walker_32 : q_dec prog_12_method_9_code 32 (.getfield 59) 3 35 := ⟨by decide +kernel, rfl⟩
theorem d_X10_walker_35 : q_dec prog_12_method_9_code 35 (.iconst 1) 1 36 := ⟨by decide +kernel, rfl⟩
theorem d_X10_walker_36 : q_dec prog_12_method_9_code 36 (.iload_n 1) 1 37 := ⟨by decide +kernel, rfl⟩
theorem d_X10_walker_37 : q_dec prog_12_method_9_code 37 (.ishl) 1 38 := ⟨by decide +kernel, rfl⟩
theorem d_X10_walker_38 : q_dec prog_12_method_9_code 38 (.ior) 1 39 := ⟨by decide +kernel, rfl⟩
theorem d_X10_walker_39 : q_dec prog_12_method_9_code 39 (.putfield 59) 3 42 := ⟨by decide +kernel, rfl⟩
theorem d_X10_walker_42 : q_dec prog_12_method_9_code 42 (.aload_n 0) 1 43 := ⟨by decide +kernel, rfl⟩
theorem d_X10_walker_43 : q_dec prog_12_method_9_code 43 (.getfield 16) 3 46 := ⟨by decide +kernel, rfl⟩
theorem d_X10_walker_46 : q_dec prog_12_method_9_code 46 (.iload_n 1) 1 47 := ⟨by decide +kernel, rfl⟩
theorem d_X10_walker_47 : q_dec prog_12_method_9_code 47 (.iload_n 3) 1 48 := ⟨by decide +kernel, rfl⟩
theorem d_X10_walker_48 : q_dec prog_12_method_9_code 48 (.iastore) 1 49 := ⟨by decide +kernel, rfl⟩
theorem d_X10_walker_49 : q_dec prog_12_method_9_code 49 (.iconst 0) 1 50 := ⟨by decide +kernel, rfl⟩
theorem d_X10_walker_50 : q_dec prog_12_method_9_code 50 (.istore 4) 2 52 := ⟨by decide +kernel, rfl⟩
theorem d_X10_walker_52 : q_dec prog_12_method_9_code 52 (.iload 4) 2 54 := ⟨by decide +kernel, rfl⟩
theorem d_X10_walker_54 : q_dec prog_12_method_9_code 54 (.bipush 6) 2 56 := ⟨by decide +kernel, rfl⟩
theorem d_X10_walker_56 : q_dec prog_12_method_9_code 56 (.if_icmp .ge 22) 3 59 := ⟨by decide +kernel, rfl⟩
theorem d_X10_walker_59 : q_dec prog_12_method_9_code 59 (.aload_n 0) 1 60 := ⟨by decide +kernel, rfl⟩
theorem d_X10_walker_60 : q_dec prog_12_method_9_code 60 (.getfield 7) 3 63 := ⟨by decide +kernel, rfl⟩
theorem d_X10_walker_63 : q_dec prog_12_method_9_code 63 (.bipush 6) 2 65 := ⟨by decide +kernel, rfl⟩
theorem d_X10_walker_65 : q_dec prog_12_method_9_code 65 (.iload_n 1) 1 66 := ⟨by decide +kernel, rfl⟩
theorem d_X10_walker_66 : q_dec prog_12_method_9_code 66 (.imul) 1 67 := ⟨by decide +kernel, rfl⟩
theorem d_X10_walker_67 : q_dec prog_12_method_9_code 67 (.iload 4) 2 69 := ⟨by decide +kernel, rfl⟩
theorem d_X10_walker_69 : q_dec prog_12_method_9_code 69 (.iadd) 1 70 := ⟨by decide +kernel, rfl⟩
theorem d_X10_walker_70 : q_dec prog_12_method_9_code 70 (.iload_n 2) 1 71 := ⟨by decide +kernel, rfl⟩
theorem d_X10_walker_71 : q_dec prog_12_method_9_code 71 (.iastore) 1 72 := ⟨by decide +kernel, rfl⟩
theorem d_X10_walker_72 : q_dec prog_12_method_9_code 72 (.iinc 4 1) 3 75 := ⟨by decide +kernel, rfl⟩
theorem d_X10_walker_75 : q_dec prog_12_method_9_code 75 (.goto (-23)) 3 78 := ⟨by decide +kernel, rfl⟩
theorem d_X10_walker_78 : q_dec prog_12_method_9_code 78 (.aload_n 0) 1 79 := ⟨by decide +kernel, rfl⟩
theorem d_X10_walker_79 : q_dec prog_12_method_9_code 79 (.getfield 7) 3 82 := ⟨by decide +kernel, rfl⟩
theorem d_X10_walker_82 : q_dec prog_12_method_9_code 82 (.bipush 36) 2 84 := ⟨by decide +kernel, rfl⟩
theorem d_X10_walker_84 : q_dec prog_12_method_9_code 84 (.iload_n 1) 1 85 := ⟨by decide +kernel, rfl⟩
theorem d_X10_walker_85 : q_dec prog_12_method_9_code 85 (.iadd) 1 86 := ⟨by decide +kernel, rfl⟩
theorem d_X10_walker_86 : q_dec prog_12_method_9_code 86 (.bipush (-6)) 2 88 := ⟨by decide +kernel, rfl⟩
theorem d_X10_walker_88 : q_dec prog_12_method_9_code 88 (.iastore) 1 89 := ⟨by decide +kernel, rfl⟩
theorem d_X10_walker_89 : q_dec prog_12_method_9_code 89 (.aload_n 0) 1 90 := ⟨by decide +kernel, rfl⟩
theorem d_X10_walker_90 : q_dec prog_12_method_9_code 90 (.getfield 59) 3 93 := ⟨by decide +kernel, rfl⟩
theorem d_X10_walker_93 : q_dec prog_12_method_9_code 93 (.invokestatic 73) 3 96 := ⟨by decide +kernel, rfl⟩
theorem d_X10_walker_96 : q_dec prog_12_method_9_code 96 (.ireturn) 1 97 := ⟨by decide +kernel, rfl⟩
theorem m_X10_walker : q_wV y_X10_walker prog_12_method_9_code 5 (some .int) 3 := ⟨q_mem 769 (by decide +kernel) (by decide +kernel), q_mem 767 (by decide +kernel) (by decide +kernel), q_mem 768 (by decide +kernel) (by decide +kernel), q_mem 11 (by decide +kernel) (by decide +kernel), by decide +kernel⟩
theorem d_X10_leave_0 : q_dec prog_12_method_10_code 0 (.aload_n 0) 1 1 := ⟨by decide +kernel, rfl⟩
theorem d_X10_leave_1 : q_dec prog_12_method_10_code 1 (.iload_n 1) 1 2 := ⟨by decide +kernel, rfl⟩
theorem d_X10_leave_2 : q_dec prog_12_method_10_code 2 (.invokevirtual 77) 3 5 := ⟨by decide +kernel, rfl⟩
theorem d_X10_leave_5 : q_dec prog_12_method_10_code 5 (.ifCond .ne 5) 3 8 := ⟨by decide +kernel, rfl⟩
theorem d_X10_leave_8 : q_dec prog_12_method_10_code 8 (.iconst (-1)) 1 9 := ⟨by decide +kernel, rfl⟩
theorem d_X10_leave_9 : q_dec prog_12_method_10_code 9 (.ireturn) 1 10 := ⟨by decide +kernel, rfl⟩
theorem d_X10_leave_10 : q_dec prog_12_method_10_code 10 (.aload_n 0) 1 11 := ⟨by decide +kernel, rfl⟩
theorem d_X10_leave_11 : q_dec prog_12_method_10_code 11 (.dup) 1 12 := ⟨by decide +kernel, rfl⟩
theorem d_X10_leave_12 : q_dec prog_12_method_10_code 12 (.getfield 59) 3 15 := ⟨by decide +kernel, rfl⟩
theorem d_X10_leave_15 : q_dec prog_12_method_10_code 15 (.iconst 1) 1 16 := ⟨by decide +kernel, rfl⟩
theorem d_X10_leave_16 : q_dec prog_12_method_10_code 16 (.iload_n 1) 1 17 := ⟨by decide +kernel, rfl⟩
theorem d_X10_leave_17 : q_dec prog_12_method_10_code 17 (.ishl) 1 18 := ⟨by decide +kernel, rfl⟩
theorem d_X10_leave_18 : q_dec prog_12_method_10_code 18 (.iconst (-1)) 1 19 := ⟨by decide +kernel, rfl⟩
theorem d_X10_leave_19 : q_dec prog_12_method_10_code 19 (.ixor) 1 20 := ⟨by decide +kernel, rfl⟩
theorem d_X10_leave_20 : q_dec prog_12_method_10_code 20 (.iand) 1 21 := ⟨by decide +kernel, rfl⟩
theorem d_X10_leave_21 : q_dec prog_12_method_10_code 21 (.putfield 59) 3 24 := ⟨by decide +kernel, rfl⟩
theorem d_X10_leave_24 : q_dec prog_12_method_10_code 24 (.aload_n 0) 1 25 := ⟨by decide +kernel, rfl⟩
theorem d_X10_leave_25 : q_dec prog_12_method_10_code 25 (.getfield 59) 3 28 := ⟨by decide +kernel, rfl⟩
theorem d_X10_leave_28 : q_dec prog_12_method_10_code 28 (.invokestatic 73) 3 31 := ⟨by decide +kernel, rfl⟩
theorem d_X10_leave_31 : q_dec prog_12_method_10_code 31 (.ireturn) 1 32 := ⟨by decide +kernel, rfl⟩
theorem m_X10_leave : q_wV y_X10_leave prog_12_method_10_code 2 (some .int) 1 := ⟨q_mem 776 (by decide +kernel) (by decide +kernel), q_mem 774 (by decide +kernel) (by decide +kernel), q_mem 775 (by decide +kernel) (by decide +kernel), q_mem 11 (by decide +kernel) (by decide +kernel), by decide +kernel⟩
theorem d_X10_say_0 : q_dec prog_12_method_11_code 0 (.iload_n 1) 1 1 := ⟨by decide +kernel, rfl⟩
theorem d_X10_say_1 : q_dec prog_12_method_11_code 1 (.bipush 33) 2 3 := ⟨by decide +kernel, rfl⟩
theorem d_X10_say_3 : q_dec prog_12_method_11_code 3 (.bipush 126) 2 5 := ⟨by decide +kernel, rfl⟩
theorem d_X10_say_5 : q_dec prog_12_method_11_code 5 (.invokestatic 55) 3 8 := ⟨by decide +kernel, rfl⟩
theorem d_X10_say_8 : q_dec prog_12_method_11_code 8 (.ifCond .ne 6) 3 11 := ⟨by decide +kernel, rfl⟩
theorem d_X10_say_11 : q_dec prog_12_method_11_code 11 (.bipush (-2)) 2 13 := ⟨by decide +kernel, rfl⟩
theorem d_X10_say_13 : q_dec prog_12_method_11_code 13 (.ireturn) 1 14 := ⟨by decide +kernel, rfl⟩
theorem d_X10_say_14 : q_dec prog_12_method_11_code 14 (.aload_n 0) 1 15 := ⟨by decide +kernel, rfl⟩
theorem d_X10_say_15 : q_dec prog_12_method_11_code 15 (.getfield 80) 3 18 := ⟨by decide +kernel, rfl⟩
theorem d_X10_say_18 : q_dec prog_12_method_11_code 18 (.bipush 60) 2 20 := ⟨by decide +kernel, rfl⟩
theorem d_X10_say_20 : q_dec prog_12_method_11_code 20 (.if_icmp .ne 6) 3 23 := ⟨by decide +kernel, rfl⟩
theorem d_X10_say_23 : q_dec prog_12_method_11_code 23 (.bipush (-4)) 2 25 := ⟨by decide +kernel, rfl⟩
theorem d_X10_say_25 : q_dec prog_12_method_11_code 25 (.ireturn) 1 26 := ⟨by decide +kernel, rfl⟩
theorem d_X10_say_26 : q_dec prog_12_method_11_code 26 (.aload_n 0) 1 27 := ⟨by decide +kernel, rfl⟩
theorem d_X10_say_27 : q_dec prog_12_method_11_code 27 (.getfield 26) 3 30 := ⟨by decide +kernel, rfl⟩
theorem d_X10_say_30 : q_dec prog_12_method_11_code 30 (.aload_n 0) 1 31 := ⟨by decide +kernel, rfl⟩
theorem d_X10_say_31 : q_dec prog_12_method_11_code 31 (.getfield 80) 3 34 := ⟨by decide +kernel, rfl⟩
theorem d_X10_say_34 : q_dec prog_12_method_11_code 34 (.iload_n 1) 1 35 := ⟨by decide +kernel, rfl⟩
theorem d_X10_say_35 : q_dec prog_12_method_11_code 35 (.iastore) 1 36 := ⟨by decide +kernel, rfl⟩
theorem d_X10_say_36 : q_dec prog_12_method_11_code 36 (.aload_n 0) 1 37 := ⟨by decide +kernel, rfl⟩
theorem d_X10_say_37 : q_dec prog_12_method_11_code 37 (.dup) 1 38 := ⟨by decide +kernel, rfl⟩
theorem d_X10_say_38 : q_dec prog_12_method_11_code 38 (.getfield 80) 3 41 := ⟨by decide +kernel, rfl⟩
theorem d_X10_say_41 : q_dec prog_12_method_11_code 41 (.iconst 1) 1 42 := ⟨by decide +kernel, rfl⟩
theorem d_X10_say_42 : q_dec prog_12_method_11_code 42 (.iadd) 1 43 := ⟨by decide +kernel, rfl⟩
theorem d_X10_say_43 : q_dec prog_12_method_11_code 43 (.putfield 80) 3 46 := ⟨by decide +kernel, rfl⟩
theorem d_X10_say_46 : q_dec prog_12_method_11_code 46 (.aload_n 0) 1 47 := ⟨by decide +kernel, rfl⟩
theorem d_X10_say_47 : q_dec prog_12_method_11_code 47 (.getfield 80) 3 50 := ⟨by decide +kernel, rfl⟩
theorem d_X10_say_50 : q_dec prog_12_method_11_code 50 (.ireturn) 1 51 := ⟨by decide +kernel, rfl⟩
theorem m_X10_say : q_wV y_X10_say prog_12_method_11_code 2 (some .int) 1 := ⟨q_mem 787 (by decide +kernel) (by decide +kernel), q_mem 785 (by decide +kernel) (by decide +kernel), q_mem 786 (by decide +kernel) (by decide +kernel), q_mem 11 (by decide +kernel) (by decide +kernel), by decide +kernel⟩
theorem d_X10_wipe_0 : q_dec prog_12_method_12_code 0 (.aload_n 0) 1 1 := ⟨by decide +kernel, rfl⟩
theorem d_X10_wipe_1 : q_dec prog_12_method_12_code 1 (.getfield 80) 3 4 := ⟨by decide +kernel, rfl⟩
theorem d_X10_wipe_4 : q_dec prog_12_method_12_code 4 (.istore_n 1) 1 5 := ⟨by decide +kernel, rfl⟩
theorem d_X10_wipe_5 : q_dec prog_12_method_12_code 5 (.aload_n 0) 1 6 := ⟨by decide +kernel, rfl⟩
theorem d_X10_wipe_6 : q_dec prog_12_method_12_code 6 (.iconst 0) 1 7 := ⟨by decide +kernel, rfl⟩
theorem d_X10_wipe_7 : q_dec prog_12_method_12_code 7 (.putfield 80) 3 10 := ⟨by decide +kernel, rfl⟩
theorem d_X10_wipe_10 : q_dec prog_12_method_12_code 10 (.iload_n 1) 1 11 := ⟨by decide +kernel, rfl⟩
theorem d_X10_wipe_11 : q_dec prog_12_method_12_code 11 (.ireturn) 1 12 := ⟨by decide +kernel, rfl⟩
theorem m_X10_wipe : q_wV y_X10_wipe prog_12_method_12_code 2 (some .int) 0 := ⟨q_mem 791 (by decide +kernel) (by decide +kernel), q_mem 789 (by decide +kernel) (by decide +kernel), q_mem 790 (by decide +kernel) (by decide +kernel), q_mem 11 (by decide +kernel) (by decide +kernel), by decide +kernel⟩
theorem d_X10_faultOf_0 : q_dec prog_12_method_13_code 0 (.iconst 0) 1 1 := ⟨by decide +kernel, rfl⟩
theorem d_X10_faultOf_1 : q_dec prog_12_method_13_code 1 (.istore_n 1) 1 2 := ⟨by decide +kernel, rfl⟩
theorem d_X10_faultOf_2 : q_dec prog_12_method_13_code 2 (.iconst 0) 1 3 := ⟨by decide +kernel, rfl⟩
theorem d_X10_faultOf_3 : q_dec prog_12_method_13_code 3 (.istore_n 2) 1 4 := ⟨by decide +kernel, rfl⟩
theorem d_X10_faultOf_4 : q_dec prog_12_method_13_code 4 (.iload_n 2) 1 5 := ⟨by decide +kernel, rfl⟩
theorem d_X10_faultOf_5 : q_dec prog_12_method_13_code 5 (.aload_n 0) 1 6 := ⟨by decide +kernel, rfl⟩
theorem d_X10_faultOf_6 : q_dec prog_12_method_13_code 6 (.getfield 80) 3 9 := ⟨by decide +kernel, rfl⟩
theorem d_X10_faultOf_9 : q_dec prog_12_method_13_code 9 (.if_icmp .ge 110) 3 12 := ⟨by decide +kernel, rfl⟩
theorem d_X10_faultOf_12 : q_dec prog_12_method_13_code 12 (.aload_n 0) 1 13 := ⟨by decide +kernel, rfl⟩
theorem d_X10_faultOf_13 : q_dec prog_12_method_13_code 13 (.getfield 26) 3 16 := ⟨by decide +kernel, rfl⟩
theorem d_X10_faultOf_16 : q_dec prog_12_method_13_code 16 (.iload_n 2) 1 17 := ⟨by decide +kernel, rfl⟩
theorem d_X10_faultOf_17 : q_dec prog_12_method_13_code 17 (.iaload) 1 18 := ⟨by decide +kernel, rfl⟩
theorem d_X10_faultOf_18 : q_dec prog_12_method_13_code 18 (.istore_n 3) 1 19 := ⟨by decide +kernel, rfl⟩
theorem d_X10_faultOf_19 : q_dec prog_12_method_13_code 19 (.iload_n 1) 1 20 := ⟨by decide +kernel, rfl⟩
theorem d_X10_faultOf_20 : q_dec prog_12_method_13_code 20 (.ifCond .eq 35) 3 23 := ⟨by decide +kernel, rfl⟩
theorem d_X10_faultOf_23 : q_dec prog_12_method_13_code 23 (.iload_n 3) 1 24 := ⟨by decide +kernel, rfl⟩
theorem d_X10_faultOf_24 : q_dec prog_12_method_13_code 24 (.bipush 60) 2 26 := ⟨by decide +kernel, rfl⟩
theorem d_X10_faultOf_26 : q_dec prog_12_method_13_code 26 (.if_icmp .eq 21) 3 29 := ⟨by decide +kernel, rfl⟩
theorem d_X10_faultOf_29 : q_dec prog_12_method_13_code 29 (.iload_n 3) 1 30 := ⟨by decide +kernel, rfl⟩
theorem d_X10_faultOf_30 : q_dec prog_12_method_13_code 30 (.bipush 62) 2 32 := ⟨by decide +kernel, rfl⟩
theorem d_X10_faultOf_32 : q_dec prog_12_method_13_code 32 (.if_icmp .eq 15) 3 35 := ⟨by decide +kernel, rfl⟩
theorem d_X10_faultOf_35 : q_dec prog_12_method_13_code 35 (.iload_n 3) 1 36 := ⟨by decide +kernel, rfl⟩
theorem d_X10_faultOf_36 : q_dec prog_12_method_13_code 36 (.bipush 61) 2 38 := ⟨by decide +kernel, rfl⟩
theorem d_X10_faultOf_38 : q_dec prog_12_method_13_code 38 (.if_icmp .eq 9) 3 41 := ⟨by decide +kernel, rfl⟩
theorem d_X10_faultOf_41 : q_dec prog_12_method_13_code 41 (.iload_n 3) 1 42 := ⟨by decide +kernel, rfl⟩
theorem d_X10_faultOf_42 : q_dec prog_12_method_13_code 42 (.bipush 42) 2 44 := ⟨by decide +kernel, rfl⟩
theorem d_X10_faultOf_44 : q_dec prog_12_method_13_code 44 (.if_icmp .ne 7) 3 47 := ⟨by decide +kernel, rfl⟩
theorem d_X10_faultOf_47 : q_dec prog_12_method_13_code 47 (.iconst 1) 1 48 := ⟨by decide +kernel, rfl⟩
theorem d_X10_faultOf_48 : q_dec prog_12_method_13_code 48 (.goto 35) 3 51 := ⟨by decide +kernel, rfl⟩
theorem d_X10_faultOf_51 : q_dec prog_12_method_13_code 51 (.iconst 0) 1 52 := ⟨by decide +kernel, rfl⟩
theorem d_X10_faultOf_52 : q_dec prog_12_method_13_code 52 (.goto 31) 3 55 := ⟨by decide +kernel, rfl⟩
theorem d_X10_faultOf_55 : q_dec prog_12_method_13_code 55 (.iload_n 3) 1 56 := ⟨by decide +kernel, rfl⟩
theorem d_X10_faultOf_56 : q_dec prog_12_method_13_code 56 (.bipush 65) 2 58 := ⟨by decide +kernel, rfl⟩
theorem d_X10_faultOf_58 : q_dec prog_12_method_13_code 58 (.bipush 70) 2 60 := ⟨by decide +kernel, rfl⟩
theorem d_X10_faultOf_60 : q_dec prog_12_method_13_code 60 (.invokestatic 55) 3 63 := ⟨by decide +kernel, rfl⟩
theorem d_X10_faultOf_63 : q_dec prog_12_method_13_code 63 (.ifCond .ne 15) 3 66 := ⟨by decide +kernel, rfl⟩
theorem d_X10_faultOf_66 : q_dec prog_12_method_13_code 66 (.iload_n 3) 1 67 := ⟨by decide +kernel, rfl⟩
theorem d_X10_faultOf_67 : q_dec prog_12_method_13_code 67 (.bipush 126) 2 69 := ⟨by decide +kernel, rfl⟩
theorem d_X10_faultOf_69 : q_dec prog_12_method_13_code 69 (.if_icmp .eq 9) 3 72 := ⟨by decide +kernel, rfl⟩
theorem d_X10_faultOf_72 : q_dec prog_12_method_13_code 72 (.iload_n 3) 1 73 := ⟨by decide +kernel, rfl⟩
theorem d_X10_faultOf_73 : q_dec prog_12_method_13_code 73 (.bipush 46) 2 75 := ⟨by decide +kernel, rfl⟩
theorem d_X10_faultOf_75 : q_dec prog_12_method_13_code 75 (.if_icmp .ne 7) 3 78 := ⟨by decide +kernel, rfl⟩
theorem d_X10_faultOf_78 : q_dec prog_12_method_13_code 78 (.iconst 1) 1 79 := ⟨by decide +kernel, rfl⟩
theorem d_X10_faultOf_79 : q_dec prog_12_method_13_code 79 (.goto 4) 3 82 := ⟨by decide +kernel, rfl⟩
theorem d_X10_faultOf_82 : q_dec prog_12_method_13_code 82 (.iconst 0) 1 83 := ⟨by decide +kernel, rfl⟩
theorem d_X10_faultOf_83 : q_dec prog_12_method_13_code 83 (.istore 4) 2 85 := ⟨by decide +kernel, rfl⟩
theorem d_X10_faultOf_85 : q_dec prog_12_method_13_code 85 (.iload 4) 2 87 := ⟨by decide +kernel, rfl⟩
theorem d_X10_faultOf_87 : q_dec prog_12_method_13_code 87 (.ifCond .ne 5) 3 90 := ⟨by decide +kernel, rfl⟩
theorem d_X10_faultOf_90 : q_dec prog_12_method_13_code 90 (.iload_n 2) 1 91 := ⟨by decide +kernel, rfl⟩
theorem d_X10_faultOf_91 : q_dec prog_12_method_13_code 91 (.ireturn) 1 92 := ⟨by decide +kernel, rfl⟩
theorem d_X10_faultOf_92 : q_dec prog_12_method_13_code 92 (.iload_n 1) 1 93 := ⟨by decide +kernel, rfl⟩
theorem d_X10_faultOf_93 : q_dec prog_12_method_13_code 93 (.ifCond .ne 18) 3 96 := ⟨by decide +kernel, rfl⟩
theorem d_X10_faultOf_96 : q_dec prog_12_method_13_code 96 (.iload_n 3) 1 97 := ⟨by decide +kernel, rfl⟩
theorem d_X10_faultOf_97 : q_dec prog_12_method_13_code 97 (.bipush 65) 2 99 := ⟨by decide +kernel, rfl⟩
theorem d_X10_faultOf_99 : q_dec prog_12_method_13_code 99 (.bipush 70) 2 101 := ⟨by decide +kernel, rfl⟩
theorem d_X10_faultOf_101 : q_dec prog_12_method_13_code 101 (.invokestatic 55) 3 104 := ⟨by decide +kernel, rfl⟩
theorem d_X10_faultOf_104 : q_dec prog_12_method_13_code 104 (.ifCond .eq 7) 3 107 := ⟨by decide +kernel, rfl⟩
theorem d_X10_faultOf_107 : q_dec prog_12_method_13_code 107 (.iconst 1) 1 108 := ⟨by decide +kernel, rfl⟩
theorem d_X10_faultOf_108 : q_dec prog_12_method_13_code 108 (.goto 4) 3 111 := ⟨by decide +kernel, rfl⟩
theorem d_X10_faultOf_111 : q_dec prog_12_method_13_code 111 (.iconst 0) 1 112 := ⟨by decide +kernel, rfl⟩
theorem d_X10_faultOf_112 : q_dec prog_12_method_13_code 112 (.istore_n 1) 1 113 := ⟨by decide +kernel, rfl⟩
theorem d_X10_faultOf_113 : q_dec prog_12_method_13_code 113 (.iinc 2 1) 3 116 := ⟨by decide +kernel, rfl⟩
theorem d_X10_faultOf_116 : q_dec prog_12_method_13_code 116 (.goto (-112)) 3 119 := ⟨by decide +kernel, rfl⟩
theorem d_X10_faultOf_119 : q_dec prog_12_method_13_code 119 (.iload_n 1) 1 120 := ⟨by decide +kernel, rfl⟩
theorem d_X10_faultOf_120 : q_dec prog_12_method_13_code 120 (.ifCond .eq 10) 3 123 := ⟨by decide +kernel, rfl⟩
theorem d_X10_faultOf_123 : q_dec prog_12_method_13_code 123 (.aload_n 0) 1 124 := ⟨by decide +kernel, rfl⟩
theorem d_X10_faultOf_124 : q_dec prog_12_method_13_code 124 (.getfield 80) 3 127 := ⟨by decide +kernel, rfl⟩
theorem d_X10_faultOf_127 : q_dec prog_12_method_13_code 127 (.goto 5) 3 130 := ⟨by decide +kernel, rfl⟩
theorem d_X10_faultOf_130 : q_dec prog_12_method_13_code 130 (.bipush (-6)) 2 132 := ⟨by decide +kernel, rfl⟩
theorem d_X10_faultOf_132 : q_dec prog_12_method_13_code 132 (.ireturn) 1 133 := ⟨by decide +kernel, rfl⟩
theorem m_X10_faultOf : q_wV y_X10_faultOf prog_12_method_13_code 5 (some .int) 0 := ⟨q_mem 799 (by decide +kernel) (by decide +kernel), q_mem 798 (by decide +kernel) (by decide +kernel), q_memS (n := 22) 16 (by decide +kernel), q_mem 11 (by decide +kernel) (by decide +kernel), by decide +kernel⟩
theorem d_X10_fault_0 : q_dec prog_12_method_14_code 0 (.aload_n 0) 1 1 := ⟨by decide +kernel, rfl⟩
theorem d_X10_fault_1 : q_dec prog_12_method_14_code 1 (.invokevirtual 83) 3 4 := ⟨by decide +kernel, rfl⟩
theorem d_X10_fault_4 : q_dec prog_12_method_14_code 4 (.ireturn) 1 5 := ⟨by decide +kernel, rfl⟩
theorem m_X10_fault : q_wV y_X10_fault prog_12_method_14_code 1 (some .int) 0 := ⟨q_mem 795 (by decide +kernel) (by decide +kernel), q_mem 793 (by decide +kernel) (by decide +kernel), q_mem 794 (by decide +kernel) (by decide +kernel), q_mem 11 (by decide +kernel) (by decide +kernel), by decide +kernel⟩
theorem d_X10_asNow_0 : q_dec prog_12_method_15_code 0 (.iconst 0) 1 1 := ⟨by decide +kernel, rfl⟩
theorem d_X10_asNow_1 : q_dec prog_12_method_15_code 1 (.istore_n 1) 1 2 := ⟨by decide +kernel, rfl⟩
theorem d_X10_asNow_2 : q_dec prog_12_method_15_code 2 (.iload_n 1) 1 3 := ⟨by decide +kernel, rfl⟩
theorem d_X10_asNow_3 : q_dec prog_12_method_15_code 3 (.bipush 50) 2 5 := ⟨by decide +kernel, rfl⟩
theorem d_X10_asNow_5 : q_dec prog_12_method_15_code 5 (.if_icmp .ge 21) 3 8 := ⟨by decide +kernel, rfl⟩
theorem d_X10_asNow_8 : q_dec prog_12_method_15_code 8 (.aload_n 0) 1 9 := ⟨by decide +kernel, rfl⟩
theorem d_X10_asNow_9 : q_dec prog_12_method_15_code 9 (.getfield 13) 3 12 := ⟨by decide +kernel, rfl⟩
theorem d_X10_asNow_12 : q_dec prog_12_method_15_code 12 (.iload_n 1) 1 13 := ⟨by decide +kernel, rfl⟩
theorem d_X10_asNow_13 : q_dec prog_12_method_15_code 13 (.aload_n 0) 1 14 := ⟨by decide +kernel, rfl⟩
theorem d_X10_asNow_14 : q_dec prog_12_method_15_code 14 (.getfield 7) 3 17 := ⟨by decide +kernel, rfl⟩
theorem d_X10_asNow_17 : q_dec prog_12_method_15_code 17 (.iload_n 1) 1 18 := ⟨by decide +kernel, rfl⟩
theorem d_X10_asNow_18 : q_dec prog_12_method_15_code 18 (.iaload) 1 19 := ⟨by decide +kernel, rfl⟩
theorem d_X10_asNow_19 : q_dec prog_12_method_15_code 19 (.iastore) 1 20 := ⟨by decide +kernel, rfl⟩
theorem d_X10_asNow_20 : q_dec prog_12_method_15_code 20 (.iinc 1 1) 3 23 := ⟨by decide +kernel, rfl⟩
theorem d_X10_asNow_23 : q_dec prog_12_method_15_code 23 (.goto (-21)) 3 26 := ⟨by decide +kernel, rfl⟩
theorem d_X10_asNow_26 : q_dec prog_12_method_15_code 26 (.aload_n 0) 1 27 := ⟨by decide +kernel, rfl⟩
theorem d_X10_asNow_27 : q_dec prog_12_method_15_code 27 (.bipush (-6)) 2 29 := ⟨by decide +kernel, rfl⟩
theorem d_X10_asNow_29 : q_dec prog_12_method_15_code 29 (.putfield 87) 3 32 := ⟨by decide +kernel, rfl⟩
theorem d_X10_asNow_32 : q_dec prog_12_method_15_code 32 (.aload_n 0) 1 33 := ⟨by decide +kernel, rfl⟩
theorem d_X10_asNow_33 : q_dec prog_12_method_15_code 33 (.bipush (-6)) 2 35 := ⟨by decide +kernel, rfl⟩
theorem d_X10_asNow_35 : q_dec prog_12_method_15_code 35 (.putfield 90) 3 38 := ⟨by decide +kernel, rfl⟩
theorem d_X10_asNow_38 : q_dec prog_12_method_15_code 38 (.return_) 1 39 := ⟨by decide +kernel, rfl⟩
theorem m_X10_asNow : q_wV y_X10_asNow prog_12_method_15_code 2 none 0 := ⟨q_mem 811 (by decide +kernel) (by decide +kernel), q_mem 810 (by decide +kernel) (by decide +kernel), q_memS (n := 22) 18 (by decide +kernel), q_mem 11 (by decide +kernel) (by decide +kernel), by decide +kernel⟩
theorem d_X10_hasParted_0 : q_dec prog_12_method_16_code 0 (.aload_n 0) 1 1 := ⟨by decide +kernel, rfl⟩
theorem d_X10_hasParted_1 : q_dec prog_12_method_16_code 1 (.getfield 13) 3 4 := ⟨by decide +kernel, rfl⟩
theorem d_X10_hasParted_4 : q_dec prog_12_method_16_code 4 (.bipush 36) 2 6 := ⟨by decide +kernel, rfl⟩
theorem d_X10_hasParted_6 : q_dec prog_12_method_16_code 6 (.iload_n 1) 1 7 := ⟨by decide +kernel, rfl⟩
theorem d_X10_hasParted_7 : q_dec prog_12_method_16_code 7 (.iadd) 1 8 := ⟨by decide +kernel, rfl⟩
theorem d_X10_hasParted_8 : q_dec prog_12_method_16_code 8 (.iaload) 1 9 := ⟨by decide +kernel, rfl⟩
theorem d_X10_hasParted_9 : q_dec prog_12_method_16_code 9 (.ifCond .lt 7) 3 12 := ⟨by decide +kernel, rfl⟩
theorem d_X10_hasParted_12 : q_dec prog_12_method_16_code 12 (.iconst 1) 1 13 := ⟨by decide +kernel, rfl⟩
theorem d_X10_hasParted_13 : q_dec prog_12_method_16_code 13 (.goto 4) 3 16 := ⟨by decide +kernel, rfl⟩
theorem d_X10_hasParted_16 : q_dec prog_12_method_16_code 16 (.iconst 0) 1 17 := ⟨by decide +kernel, rfl⟩
theorem d_X10_hasParted_17 : q_dec prog_12_method_16_code 17 (.ireturn) 1 18 := ⟨by decide +kernel, rfl⟩
theorem m_X10_hasParted : q_wV y_X10_hasParted prog_12_method_16_code 2 (some .boolean) 1 := ⟨q_mem 819 (by decide +kernel) (by decide +kernel), q_mem 818 (by decide +kernel) (by decide +kernel), q_memS (n := 22) 20 (by decide +kernel), q_mem 11 (by decide +kernel) (by decide +kernel), by decide +kernel⟩
theorem d_X10_otherOf_0 : q_dec prog_12_method_17_code 0 (.aload_n 0) 1 1 := ⟨by decide +kernel, rfl⟩
theorem d_X10_otherOf_1 : q_dec prog_12_method_17_code 1 (.iload_n 1) 1 2 := ⟨by decide +kernel, rfl⟩
theorem d_X10_otherOf_2 : q_dec prog_12_method_17_code 2 (.invokevirtual 93) 3 5 := ⟨by decide +kernel, rfl⟩
theorem d_X10_otherOf_5 : q_dec prog_12_method_17_code 5 (.ifCond .eq 15) 3 8 := ⟨by decide +kernel, rfl⟩
theorem d_X10_otherOf_8 : q_dec prog_12_method_17_code 8 (.aload_n 0) 1 9 := ⟨by decide +kernel, rfl⟩
theorem d_X10_otherOf_9 : q_dec prog_12_method_17_code 9 (.getfield 13) 3 12 := ⟨by decide +kernel, rfl⟩
theorem d_X10_otherOf_12 : q_dec prog_12_method_17_code 12 (.bipush 36) 2 14 := ⟨by decide +kernel, rfl⟩
theorem d_X10_otherOf_14 : q_dec prog_12_method_17_code 14 (.iload_n 1) 1 15 := ⟨by decide +kernel, rfl⟩
theorem d_X10_otherOf_15 : q_dec prog_12_method_17_code 15 (.iadd) 1 16 := ⟨by decide +kernel, rfl⟩
theorem d_X10_otherOf_16 : q_dec prog_12_method_17_code 16 (.iaload) 1 17 := ⟨by decide +kernel, rfl⟩
theorem d_X10_otherOf_17 : q_dec prog_12_method_17_code 17 (.goto 35) 3 20 := ⟨by decide +kernel, rfl⟩
theorem d_X10_otherOf_20 : q_dec prog_12_method_17_code 20 (.aload_n 0) 1 21 := ⟨by decide +kernel, rfl⟩
theorem d_X10_otherOf_21 : q_dec prog_12_method_17_code 21 (.getfield 13) 3 24 := ⟨by decide +kernel, rfl⟩
theorem d_X10_otherOf_24 : q_dec prog_12_method_17_code 24 (.bipush 48) 2 26 := ⟨by decide +kernel, rfl⟩
theorem d_X10_otherOf_26 : q_dec prog_12_method_17_code 26 (.iaload) 1 27 := ⟨by decide +kernel, rfl⟩
theorem d_X10_otherOf_27 : q_dec prog_12_method_17_code 27 (.iconst 1) 1 28 := ⟨by decide +kernel, rfl⟩
theorem d_X10_otherOf_28 : q_dec prog_12_method_17_code 28 (.if_icmp .ne 8) 3 31 := ⟨by decide +kernel, rfl⟩
theorem d_X10_otherOf_31 : q_dec prog_12_method_17_code 31 (.bipush (-6)) 2 33 := ⟨by decide +kernel, rfl⟩
theorem d_X10_otherOf_33 : q_dec prog_12_method_17_code 33 (.goto 19) 3 36 := ⟨by decide +kernel, rfl⟩
theorem d_X10_otherOf_36 : q_dec prog_12_method_17_code 36 (.aload_n 0) 1 37 := ⟨by decide +kernel, rfl⟩
theorem d_X10_otherOf_37 : q_dec prog_12_method_17_code 37 (.getfield 13) 3 40 := ⟨by decide +kernel, rfl⟩
theorem d_X10_otherOf_40 : q_dec prog_12_method_17_code 40 (.bipush 6) 2 42 := ⟨by decide +kernel, rfl⟩
theorem d_X10_otherOf_42 : q_dec prog_12_method_17_code 42 (.iload_n 1) 1 43 := ⟨by decide +kernel, rfl⟩
theorem d_X10_otherOf_43 : q_dec prog_12_method_17_code 43 (.imul) 1 44 := ⟨by decide +kernel, rfl⟩
theorem d_X10_otherOf_44 : q_dec prog_12_method_17_code 44 (.aload_n 0) 1 45 := ⟨by decide +kernel, rfl⟩
theorem d_X10_otherOf_45 : q_dec prog_12_method_17_code 45 (.getfield 16) 3 48 := ⟨by decide +kernel, rfl⟩
theorem d_X10_otherOf_48 : q_dec prog_12_method_17_code 48 (.iload_n 1) 1 49 := ⟨by decide +kernel, rfl⟩
theorem d_X10_otherOf_49 : q_dec prog_12_method_17_code 49 (.iaload) 1 50 := ⟨by decide +kernel, rfl⟩
theorem d_X10_otherOf_50 : q_dec prog_12_method_17_code 50 (.iadd) 1 51 := ⟨by decide +kernel, rfl⟩
theorem d_X10_otherOf_51 : q_dec prog_12_method_17_code 51 (.iaload) 1 52 := ⟨by decide +kernel, rfl⟩
theorem d_X10_otherOf_52 : q_dec prog_12_method_17_code 52 (.ireturn) 1 53 := ⟨by decide +kernel, rfl⟩
theorem m_X10_otherOf : q_wV y_X10_otherOf prog_12_method_17_code 2 (some .int) 1 := ⟨q_mem 847 (by decide +kernel) (by decide +kernel), q_mem 846 (by decide +kernel) (by decide +kernel), q_memS (n := 22) 27 (by decide +kernel), q_mem 11 (by decide +kernel) (by decide +kernel), by decide +kernel⟩
theorem d_X10_tellAnew_0 : q_dec prog_12_method_18_code 0 (.iconst 1) 1 1 := ⟨by decide +kernel, rfl⟩
theorem d_X10_tellAnew_1 : q_dec prog_12_method_18_code 1 (.istore_n 2) 1 2 := ⟨by decide +kernel, rfl⟩
theorem d_X10_tellAnew_2 : q_dec prog_12_method_18_code 2 (.iload_n 2) 1 3 := ⟨by decide +kernel, rfl⟩
theorem d_X10_tellAnew_3 : q_dec prog_12_method_18_code 3 (.bipush 6) 2 5 := ⟨by decide +kernel, rfl⟩
theorem d_X10_tellAnew_5 : q_dec prog_12_method_18_code 5 (.if_icmp .ge 29) 3 8 := ⟨by decide +kernel, rfl⟩
theorem d_X10_tellAnew_8 : q_dec prog_12_method_18_code 8 (.aload_n 0) 1 9 := ⟨by decide +kernel, rfl⟩
theorem d_X10_tellAnew_9 : q_dec prog_12_method_18_code 9 (.getfield 13) 3 12 := ⟨by decide +kernel, rfl⟩
theorem d_X10_tellAnew_12 : q_dec prog_12_method_18_code 12 (.bipush 6) 2 14 := ⟨by decide +kernel, rfl⟩
theorem d_X10_tellAnew_14 : q_dec prog_12_method_18_code 14 (.iload_n 1) 1 15 := ⟨by decide +kernel, rfl⟩
theorem d_X10_tellAnew_15 : q_dec prog_12_method_18_code 15 (.imul) 1 16 := ⟨by decide +kernel, rfl⟩
theorem d_X10_tellAnew_16 : q_dec prog_12_method_18_code 16 (.iload_n 2) 1 17 := ⟨by decide +kernel, rfl⟩
theorem d_X10_tellAnew_17 : q_dec prog_12_method_18_code 17 (.iadd) 1 18 := ⟨by decide +kernel, rfl⟩
theorem d_X10_tellAnew_18 : q_dec prog_12_method_18_code 18 (.aload_n 0) 1 19 := ⟨by decide +kernel, rfl⟩
theorem d_X10_tellAnew_19 : q_dec prog_12_method_18_code 19 (.getfield 13) 3 22 := ⟨by decide +kernel, rfl⟩
theorem d_X10_tellAnew_22 : q_dec prog_12_method_18_code 22 (.bipush 6) 2 24 := ⟨by decide +kernel, rfl⟩
theorem d_X10_tellAnew_24 : q_dec prog_12_method_18_code 24 (.iload_n 1) 1 25 := ⟨by decide +kernel, rfl⟩
theorem d_X10_tellAnew_25 : q_dec prog_12_method_18_code 25 (.imul) 1 26 := ⟨by decide +kernel, rfl⟩
theorem d_X10_tellAnew_26 : q_dec prog_12_method_18_code 26 (.iaload) 1 27 := ⟨by decide +kernel, rfl⟩
theorem d_X10_tellAnew_27 : q_dec prog_12_method_18_code 27 (.iastore) 1 28 := ⟨by decide +kernel, rfl⟩
theorem d_X10_tellAnew_28 : q_dec prog_12_method_18_code 28 (.iinc 2 1) 3 31 := ⟨by decide +kernel, rfl⟩
theorem d_X10_tellAnew_31 : q_dec prog_12_method_18_code 31 (.goto (-29)) 3 34 := ⟨by decide +kernel, rfl⟩
theorem d_X10_tellAnew_34 : q_dec prog_12_method_18_code 34 (.return_) 1 35 := ⟨by decide +kernel, rfl⟩
theorem m_X10_tellAnew : q_wV y_X10_tellAnew prog_12_method_18_code 3 none 1 := ⟨q_mem 823 (by decide +kernel) (by decide +kernel), q_mem 822 (by decide +kernel) (by decide +kernel), q_memS (n := 22) 21 (by decide +kernel), q_mem 11 (by decide +kernel) (by decide +kernel), by decide +kernel⟩
theorem d_X10_moves_0 : q_dec prog_12_method_19_code 0 (.iconst 5) 1 1 := ⟨by decide +kernel, rfl⟩
theorem d_X10_moves_1 : q_dec prog_12_method_19_code 1 (.istore_n 3) 1 2 := ⟨by decide +kernel, rfl⟩
theorem d_X10_moves_2 : q_dec prog_12_method_19_code 2 (.iload_n 3) 1 3 := ⟨by decide +kernel, rfl⟩
theorem d_X10_moves_3 : q_dec prog_12_method_19_code 3 (.ifCond .le 33) 3 6 := ⟨by decide +kernel, rfl⟩
theorem d_X10_moves_6 : q_dec prog_12_method_19_code 6 (.aload_n 0) 1 7 := ⟨by decide +kernel, rfl⟩
theorem d_X10_moves_7 : q_dec prog_12_method_19_code 7 (.getfield 13) 3 10 := ⟨by decide +kernel, rfl⟩
theorem d_X10_moves_10 : q_dec prog_12_method_19_code 10 (.bipush 6) 2 12 := ⟨by decide +kernel, rfl⟩
theorem d_X10_moves_12 : q_dec prog_12_method_19_code 12 (.iload_n 1) 1 13 := ⟨by decide +kernel, rfl⟩
theorem d_X10_moves_13 : q_dec prog_12_method_19_code 13 (.imul) 1 14 := ⟨by decide +kernel, rfl⟩
theorem d_X10_moves_14 : q_dec prog_12_method_19_code 14 (.iload_n 3) 1 15 := ⟨by decide +kernel, rfl⟩
theorem d_X10_moves_15 : q_dec prog_12_method_19_code 15 (.iadd) 1 16 := ⟨by decide +kernel, rfl⟩
theorem d_X10_moves_16 : q_dec prog_12_method_19_code 16 (.aload_n 0) 1 17 := ⟨by decide +kernel, rfl⟩
theorem d_X10_moves_17 : q_dec prog_12_method_19_code 17 (.getfield 13) 3 20 := ⟨by decide +kernel, rfl⟩
theorem d_X10_moves_20 : q_dec prog_12_method_19_code 20 (.bipush 6) 2 22 := ⟨by decide +kernel, rfl⟩
theorem d_X10_moves_22 : q_dec prog_12_method_19_code 22 (.iload_n 1) 1 23 := ⟨by decide +kernel, rfl⟩
theorem d_X10_moves_23 : q_dec prog_12_method_19_code 23 (.imul) 1 24 := ⟨by decide +kernel, rfl⟩
theorem d_X10_moves_24 : q_dec prog_12_method_19_code 24 (.iload_n 3) 1 25 := ⟨by decide +kernel, rfl⟩
theorem d_X10_moves_25 : q_dec prog_12_method_19_code 25 (.iadd) 1 26 := ⟨by decide +kernel, rfl⟩
theorem d_X10_moves_26 : q_dec prog_12_method_19_code 26 (.iconst 1) 1 27 := ⟨by decide +kernel, rfl⟩
theorem d_X10_moves_27 : q_dec prog_12_method_19_code 27 (.isub) 1 28 := ⟨by decide +kernel, rfl⟩
theorem d_X10_moves_28 : q_dec prog_12_method_19_code 28 (.iaload) 1 29 := ⟨by decide +kernel, rfl⟩
theorem d_X10_moves_29 : q_dec prog_12_method_19_code 29 (.iastore) 1 30 := ⟨by decide +kernel, rfl⟩
theorem d_X10_moves_30 : q_dec prog_12_method_19_code 30 (.iinc 3 (-1)) 3 33 := ⟨by decide +kernel, rfl⟩
theorem d_X10_moves_33 : q_dec prog_12_method_19_code 33 (.goto (-31)) 3 36 := ⟨by decide +kernel, rfl⟩
theorem d_X10_moves_36 : q_dec prog_12_method_19_code 36 (.aload_n 0) 1 37 := ⟨by decide +kernel, rfl⟩
theorem d_X10_moves_37 : q_dec prog_12_method_19_code 37 (.getfield 13) 3 40 := ⟨by decide +kernel, rfl⟩
theorem d_X10_moves_40 : q_dec prog_12_method_19_code 40 (.bipush 6) 2 42 := ⟨by decide +kernel, rfl⟩
theorem d_X10_moves_42 : q_dec prog_12_method_19_code 42 (.iload_n 1) 1 43 := ⟨by decide +kernel, rfl⟩
theorem d_X10_moves_43 : q_dec prog_12_method_19_code 43 (.imul) 1 44 := ⟨by decide +kernel, rfl⟩
theorem d_X10_moves_44 : q_dec prog_12_method_19_code 44 (.iload_n 2) 1 45 := ⟨by decide +kernel, rfl⟩
theorem d_X10_moves_45 : q_dec prog_12_method_19_code 45 (.iastore) 1 46 := ⟨by decide +kernel, rfl⟩
theorem d_X10_moves_46 : q_dec prog_12_method_19_code 46 (.return_) 1 47 := ⟨by decide +kernel, rfl⟩
theorem m_X10_moves : q_wV y_X10_moves prog_12_method_19_code 4 none 2 := ⟨q_mem 839 (by decide +kernel) (by decide +kernel), q_mem 838 (by decide +kernel) (by decide +kernel), q_memS (n := 22) 25 (by decide +kernel), q_mem 11 (by decide +kernel) (by decide +kernel), by decide +kernel⟩
theorem d_X10_stepTo_0 : q_dec prog_12_method_20_code 0 (.aload_n 0) 1 1 := ⟨by decide +kernel, rfl⟩
theorem d_X10_stepTo_1 : q_dec prog_12_method_20_code 1 (.iload_n 1) 1 2 := ⟨by decide +kernel, rfl⟩
theorem d_X10_stepTo_2 : q_dec prog_12_method_20_code 2 (.invokevirtual 77) 3 5 := ⟨by decide +kernel, rfl⟩
theorem d_X10_stepTo_5 : q_dec prog_12_method_20_code 5 (.ifCond .ne 5) 3 8 := ⟨by decide +kernel, rfl⟩
theorem d_X10_stepTo_8 : q_dec prog_12_method_20_code 8 (.iconst 1) 1 9 := ⟨by decide +kernel, rfl⟩
theorem d_X10_stepTo_9 : q_dec prog_12_method_20_code 9 (.ireturn) 1 10 := ⟨by decide +kernel, rfl⟩
theorem d_X10_stepTo_10 : q_dec prog_12_method_20_code 10 (.aload_n 0) 1 11 := ⟨by decide +kernel, rfl⟩
theorem d_X10_stepTo_11 : q_dec prog_12_method_20_code 11 (.getfield 13) 3 14 := ⟨by decide +kernel, rfl⟩
theorem d_X10_stepTo_14 : q_dec prog_12_method_20_code 14 (.bipush 6) 2 16 := ⟨by decide +kernel, rfl⟩
theorem d_X10_stepTo_16 : q_dec prog_12_method_20_code 16 (.iload_n 1) 1 17 := ⟨by decide +kernel, rfl⟩
theorem d_X10_stepTo_17 : q_dec prog_12_method_20_code 17 (.imul) 1 18 := ⟨by decide +kernel, rfl⟩
theorem d_X10_stepTo_18 : q_dec prog_12_method_20_code 18 (.iaload) 1 19 := ⟨by decide +kernel, rfl⟩
theorem d_X10_stepTo_19 : q_dec prog_12_method_20_code 19 (.iload_n 2) 1 20 := ⟨by decide +kernel, rfl⟩
theorem d_X10_stepTo_20 : q_dec prog_12_method_20_code 20 (.iadd) 1 21 := ⟨by decide +kernel, rfl⟩
theorem d_X10_stepTo_21 : q_dec prog_12_method_20_code 21 (.istore_n 3) 1 22 := ⟨by decide +kernel, rfl⟩
theorem d_X10_stepTo_22 : q_dec prog_12_method_20_code 22 (.iload_n 3) 1 23 := ⟨by decide +kernel, rfl⟩
theorem d_X10_stepTo_23 : q_dec prog_12_method_20_code 23 (.invokestatic 66) 3 26 := ⟨by decide +kernel, rfl⟩
theorem d_X10_stepTo_26 : q_dec prog_12_method_20_code 26 (.ifCond .ne 5) 3 29 := ⟨by decide +kernel, rfl⟩
theorem d_X10_stepTo_29 : q_dec prog_12_method_20_code 29 (.iconst 2) 1 30 := ⟨by decide +kernel, rfl⟩
theorem d_X10_stepTo_30 : q_dec prog_12_method_20_code 30 (.ireturn) 1 31 := ⟨by decide +kernel, rfl⟩
theorem d_X10_stepTo_31 : q_dec prog_12_method_20_code 31 (.aload_n 0) 1 32 := ⟨by decide +kernel, rfl⟩
theorem d_X10_stepTo_32 : q_dec prog_12_method_20_code 32 (.getfield 16) 3 35 := ⟨by decide +kernel, rfl⟩
theorem d_X10_stepTo_35 : q_dec prog_12_method_20_code 35 (.iload_n 1) 1 36 := ⟨by decide +kernel, rfl⟩
theorem d_X10_stepTo_36 : q_dec prog_12_method_20_code 36 (.iaload) 1 37 := ⟨by decide +kernel, rfl⟩
theorem d_X10_stepTo_37 : q_dec prog_12_method_20_code 37 (.ifCond .ne 7) 3 40 := ⟨by decide +kernel, rfl⟩
theorem d_X10_stepTo_40 : q_dec prog_12_method_20_code 40 (.iload_n 3) 1 41 := ⟨by decide +kernel, rfl⟩
theorem d_X10_stepTo_41 : q_dec prog_12_method_20_code 41 (.goto 21) 3 44 := ⟨by decide +kernel, rfl⟩
theorem d_X10_stepTo_44 : q_dec prog_12_method_20_code 44 (.aload_n 0) 1 45 := ⟨by decide +kernel, rfl⟩
theorem d_X10_stepTo_45 : q_dec prog_12_method_20_code 45 (.getfield 13) 3 48 := ⟨by decide +kernel, rfl⟩
theorem d_X10_stepTo_48 : q_dec prog_12_method_20_code 48 (.bipush 6) 2 50 := ⟨by decide +kernel, rfl⟩
theorem d_X10_stepTo_50 : q_dec prog_12_method_20_code 50 (.iload_n 1) 1 51 := ⟨by decide +kernel, rfl⟩
theorem d_X10_stepTo_51 : q_dec prog_12_method_20_code 51 (.imul) 1 52 := ⟨by decide +kernel, rfl⟩
theorem d_X10_stepTo_52 : q_dec prog_12_method_20_code 52 (.aload_n 0) 1 53 := ⟨by decide +kernel, rfl⟩
theorem d_X10_stepTo_53 : q_dec prog_12_method_20_code 53 (.getfield 16) 3 56 := ⟨by decide +kernel, rfl⟩
theorem d_X10_stepTo_56 : q_dec prog_12_method_20_code 56 (.iload_n 1) 1 57 := ⟨by decide +kernel, rfl⟩
theorem d_X10_stepTo_57 : q_dec prog_12_method_20_code 57 (.iaload) 1 58 := ⟨by decide +kernel, rfl⟩
theorem d_X10_stepTo_58 : q_dec prog_12_method_20_code 58 (.iadd) 1 59 := ⟨by decide +kernel, rfl⟩
theorem d_X10_stepTo_59 : q_dec prog_12_method_20_code 59 (.iconst 1) 1 60 := ⟨by decide +kernel, rfl⟩
theorem d_X10_stepTo_60 : q_dec prog_12_method_20_code 60 (.isub) 1 61 := ⟨by decide +kernel, rfl⟩
theorem d_X10_stepTo_61 : q_dec prog_12_method_20_code 61 (.iaload) 1 62 := ⟨by decide +kernel, rfl⟩
theorem d_X10_stepTo_62 : q_dec prog_12_method_20_code 62 (.istore 4) 2 64 := ⟨by decide +kernel, rfl⟩
theorem d_X10_stepTo_64 : q_dec prog_12_method_20_code 64 (.aload_n 0) 1 65 := ⟨by decide +kernel, rfl⟩
theorem d_X10_stepTo_65 : q_dec prog_12_method_20_code 65 (.iload_n 1) 1 66 := ⟨by decide +kernel, rfl⟩
theorem d_X10_stepTo_66 : q_dec prog_12_method_20_code 66 (.invokevirtual 93) 3 69 := ⟨by decide +kernel, rfl⟩
theorem d_X10_stepTo_69 : q_dec prog_12_method_20_code 69 (.ifCond .ne 34) 3 72 := ⟨by decide +kernel, rfl⟩
theorem d_X10_stepTo_72 : q_dec prog_12_method_20_code 72 (.aload_n 0) 1 73 := ⟨by decide +kernel, rfl⟩
theorem d_X10_stepTo_73 : q_dec prog_12_method_20_code 73 (.getfield 13) 3 76 := ⟨by decide +kernel, rfl⟩
theorem d_X10_stepTo_76 : q_dec prog_12_method_20_code 76 (.bipush 48) 2 78 := ⟨by decide +kernel, rfl⟩
theorem d_X10_stepTo_78 : q_dec prog_12_method_20_code 78 (.iaload) 1 79 := ⟨by decide +kernel, rfl⟩
theorem d_X10_stepTo_79 : q_dec prog_12_method_20_code 79 (.ifCond .ne 24) 3 82 := ⟨by decide +kernel, rfl⟩
theorem d_X10_stepTo_82 : q_dec prog_12_method_20_code 82 (.iload_n 3) 1 83 := ⟨by decide +kernel, rfl⟩
theorem d_X10_stepTo_83 : q_dec prog_12_method_20_code 83 (.iload 4) 2 85 := ⟨by decide +kernel, rfl⟩
theorem d_X10_stepTo_85 : q_dec prog_12_method_20_code 85 (.isub) 1 86 := ⟨by decide +kernel, rfl⟩
theorem d_X10_stepTo_86 : q_dec prog_12_method_20_code 86 (.aload_n 0) 1 87 := ⟨by decide +kernel, rfl⟩
theorem d_X10_stepTo_87 : q_dec prog_12_method_20_code 87 (.getfield 19) 3 90 := ⟨by decide +kernel, rfl⟩
theorem d_X10_stepTo_90 : q_dec prog_12_method_20_code 90 (.ineg) 1 91 := ⟨by decide +kernel, rfl⟩
theorem d_X10_stepTo_91 : q_dec prog_12_method_20_code 91 (.aload_n 0) 1 92 := ⟨by decide +kernel, rfl⟩
theorem d_X10_stepTo_92 : q_dec prog_12_method_20_code 92 (.getfield 19) 3 95 := ⟨by decide +kernel, rfl⟩
theorem d_X10_stepTo_95 : q_dec prog_12_method_20_code 95 (.invokestatic 55) 3 98 := ⟨by decide +kernel, rfl⟩
theorem d_X10_stepTo_98 : q_dec prog_12_method_20_code 98 (.ifCond .ne 5) 3 101 := ⟨by decide +kernel, rfl⟩
theorem d_X10_stepTo_101 : q_dec prog_12_method_20_code 101 (.iconst 3) 1 102 := ⟨by decide +kernel, rfl⟩
theorem d_X10_stepTo_102 : q_dec prog_12_method_20_code 102 (.ireturn) 1 103 := ⟨by decide +kernel, rfl⟩
theorem d_X10_stepTo_103 : q_dec prog_12_method_20_code 103 (.aload_n 0) 1 104 := ⟨by decide +kernel, rfl⟩
theorem d_X10_stepTo_104 : q_dec prog_12_method_20_code 104 (.getfield 70) 3 107 := ⟨by decide +kernel, rfl⟩
theorem d_X10_stepTo_107 : q_dec prog_12_method_20_code 107 (.iload_n 3) 1 108 := ⟨by decide +kernel, rfl⟩
theorem d_X10_stepTo_108 : q_dec prog_12_method_20_code 108 (.invokestatic 62) 3 111 := ⟨by decide +kernel, rfl⟩
theorem d_X10_stepTo_111 : q_dec prog_12_method_20_code 111 (.ifCond .eq 80) 3 114 := ⟨by decide +kernel, rfl⟩
theorem d_X10_stepTo_114 : q_dec prog_12_method_20_code 114 (.iconst 1) 1 115 := ⟨by decide +kernel, rfl⟩
theorem d_X10_stepTo_115 : q_dec prog_12_method_20_code 115 (.istore 5) 2 117 := ⟨by decide +kernel, rfl⟩
theorem d_X10_stepTo_117 : q_dec prog_12_method_20_code 117 (.iconst 0) 1 118 := ⟨by decide +kernel, rfl⟩
theorem d_X10_stepTo_118 : q_dec prog_12_method_20_code 118 (.istore 6) 2 120 := ⟨by decide +kernel, rfl⟩
theorem d_X10_stepTo_120 : q_dec prog_12_method_20_code 120 (.iload 6) 2 122 := ⟨by decide +kernel, rfl⟩
theorem d_X10_stepTo_122 : q_dec prog_12_method_20_code 122 (.bipush 6) 2 124 := ⟨by decide +kernel, rfl⟩
theorem d_X10_stepTo_124 : q_dec prog_12_method_20_code 124 (.if_icmp .ge 60) 3 127 := ⟨by decide +kernel, rfl⟩
theorem d_X10_stepTo_127 : q_dec prog_12_method_20_code 127 (.iload 5) 2 129 := ⟨by decide +kernel, rfl⟩
theorem d_X10_stepTo_129 : q_dec prog_12_method_20_code 129 (.ifCond .eq 46) 3 132 := ⟨by decide +kernel, rfl⟩
theorem d_X10_stepTo_132 : q_dec prog_12_method_20_code 132 (.iload 6) 2 134 := ⟨by decide +kernel, rfl⟩
theorem d_X10_stepTo_134 : q_dec prog_12_method_20_code 134 (.iload_n 1) 1 135 := ⟨by decide +kernel, rfl⟩
theorem d_X10_stepTo_135 : q_dec prog_12_method_20_code 135 (.if_icmp .eq 36) 3 138 := ⟨by decide +kernel, rfl⟩
theorem d_X10_stepTo_138 : q_dec prog_12_method_20_code 138 (.aload_n 0) 1 139 := ⟨by decide +kernel, rfl⟩
theorem d_X10_stepTo_139 : q_dec prog_12_method_20_code 139 (.iload 6) 2 141 := ⟨by decide +kernel, rfl⟩
theorem d_X10_stepTo_141 : q_dec prog_12_method_20_code 141 (.invokevirtual 77) 3 144 := ⟨by decide +kernel, rfl⟩
theorem d_X10_stepTo_144 : q_dec prog_12_method_20_code 144 (.ifCond .eq 27) 3 147 := ⟨by decide +kernel, rfl⟩
theorem d_X10_stepTo_147 : q_dec prog_12_method_20_code 147 (.aload_n 0) 1 148 := ⟨by decide +kernel, rfl⟩
theorem d_X10_stepTo_148 : q_dec prog_12_method_20_code 148 (.getfield 13) 3 151 := ⟨by decide +kernel, rfl⟩
theorem d_X10_stepTo_151 : q_dec prog_12_method_20_code 151 (.bipush 6) 2 153 := ⟨by decide +kernel, rfl⟩
theorem d_X10_stepTo_153 : q_dec prog_12_method_20_code 153 (.iload 6) 2 155 := ⟨by decide +kernel, rfl⟩
theorem d_X10_stepTo_155 : q_dec prog_12_method_20_code 155 (.imul) 1 156 := ⟨by decide +kernel, rfl⟩
theorem d_X10_stepTo_156 : q_dec prog_12_method_20_code 156 (.iaload) 1 157 := ⟨by decide +kernel, rfl⟩
theorem d_X10_stepTo_157 : q_dec prog_12_method_20_code 157 (.iload_n 3) 1 158 := ⟨by decide +kernel, rfl⟩
theorem d_X10_stepTo_158 : q_dec prog_12_method_20_code 158 (.if_icmp .eq 17) 3 161 := ⟨by decide +kernel, rfl⟩
theorem d_X10_stepTo_161 : q_dec prog_12_method_20_code 161 (.aload_n 0) 1 162 := ⟨by decide +kernel, rfl⟩
theorem d_X10_stepTo_162 : q_dec prog_12_method_20_code 162 (.iload 6) 2 164 := ⟨by decide +kernel, rfl⟩
theorem d_X10_stepTo_164 : q_dec prog_12_method_20_code 164 (.invokevirtual 96) 3 167 := ⟨by decide +kernel, rfl⟩
theorem d_X10_stepTo_167 : q_dec prog_12_method_20_code 167 (.iload_n 3) 1 168 := ⟨by decide +kernel, rfl⟩
theorem d_X10_stepTo_168 : q_dec prog_12_method_20_code 168 (.if_icmp .eq 7) 3 171 := ⟨by decide +kernel, rfl⟩
theorem d_X10_stepTo_171 : q_dec prog_12_method_20_code 171 (.iconst 1) 1 172 := ⟨by decide +kernel, rfl⟩
theorem d_X10_stepTo_172 : q_dec prog_12_method_20_code 172 (.goto 4) 3 175 := ⟨by decide +kernel, rfl⟩
theorem d_X10_stepTo_175 : q_dec prog_12_method_20_code 175 (.iconst 0) 1 176 := ⟨by decide +kernel, rfl⟩
theorem d_X10_stepTo_176 : q_dec prog_12_method_20_code 176 (.istore 5) 2 178 := ⟨by decide +kernel, rfl⟩
theorem d_X10_stepTo_178 : q_dec prog_12_method_20_code 178 (.iinc 6 1) 3 181 := ⟨by decide +kernel, rfl⟩
theorem d_X10_stepTo_181 : q_dec prog_12_method_20_code 181 (.goto (-61)) 3 184 := ⟨by decide +kernel, rfl⟩
theorem d_X10_stepTo_184 : q_dec prog_12_method_20_code 184 (.iload 5) 2 186 := ⟨by decide +kernel, rfl⟩
theorem d_X10_stepTo_186 : q_dec prog_12_method_20_code 186 (.ifCond .ne 5) 3 189 := ⟨by decide +kernel, rfl⟩
theorem d_X10_stepTo_189 : q_dec prog_12_method_20_code 189 (.iconst 4) 1 190 := ⟨by decide +kernel, rfl⟩
theorem d_X10_stepTo_190 : q_dec prog_12_method_20_code 190 (.ireturn) 1 191 := ⟨by decide +kernel, rfl⟩
theorem d_X10_stepTo_191 : q_dec prog_12_method_20_code 191 (.aload_n 0) 1 192 := ⟨by decide +kernel, rfl⟩
theorem d_X10_stepTo_192 : q_dec prog_12_method_20_code 192 (.iload_n 1) 1 193 := ⟨by decide +kernel, rfl⟩
theorem d_X10_stepTo_193 : q_dec prog_12_method_20_code 193 (.iload_n 3) 1 194 := ⟨by decide +kernel, rfl⟩
theorem d_X10_stepTo_194 : q_dec prog_12_method_20_code 194 (.invokevirtual 99) 3 197 := ⟨by decide +kernel, rfl⟩
theorem d_X10_stepTo_197 : q_dec prog_12_method_20_code 197 (.iconst 0) 1 198 := ⟨by decide +kernel, rfl⟩
theorem d_X10_stepTo_198 : q_dec prog_12_method_20_code 198 (.ireturn) 1 199 := ⟨by decide +kernel, rfl⟩
theorem m_X10_stepTo : q_wV y_X10_stepTo prog_12_method_20_code 7 (some .int) 2 := ⟨q_mem 851 (by decide +kernel) (by decide +kernel), q_mem 850 (by decide +kernel) (by decide +kernel), q_memS (n := 22) 28 (by decide +kernel), q_mem 11 (by decide +kernel) (by decide +kernel), by decide +kernel⟩
theorem d_X10_waits_0 : q_dec prog_12_method_21_code 0 (.aload_n 0) 1 1 := ⟨by decide +kernel, rfl⟩
theorem d_X10_waits_1 : q_dec prog_12_method_21_code 1 (.iload_n 1) 1 2 := ⟨by decide +kernel, rfl⟩
theorem d_X10_waits_2 : q_dec prog_12_method_21_code 2 (.invokevirtual 77) 3 5 := ⟨by decide +kernel, rfl⟩
theorem d_X10_waits_5 : q_dec prog_12_method_21_code 5 (.ifCond .ne 5) 3 8 := ⟨by decide +kernel, rfl⟩
theorem d_X10_waits_8 : q_dec prog_12_method_21_code 8 (.iconst 1) 1 9 := ⟨by decide +kernel, rfl⟩
theorem d_X10_waits_9 : q_dec prog_12_method_21_code 9 (.ireturn) 1 10 := ⟨by decide +kernel, rfl⟩
theorem d_X10_waits_10 : q_dec prog_12_method_21_code 10 (.aload_n 0) 1 11 := ⟨by decide +kernel, rfl⟩
theorem d_X10_waits_11 : q_dec prog_12_method_21_code 11 (.iload_n 1) 1 12 := ⟨by decide +kernel, rfl⟩
theorem d_X10_waits_12 : q_dec prog_12_method_21_code 12 (.aload_n 0) 1 13 := ⟨by decide +kernel, rfl⟩
theorem d_X10_waits_13 : q_dec prog_12_method_21_code 13 (.getfield 13) 3 16 := ⟨by decide +kernel, rfl⟩
theorem d_X10_waits_16 : q_dec prog_12_method_21_code 16 (.bipush 6) 2 18 := ⟨by decide +kernel, rfl⟩
theorem d_X10_waits_18 : q_dec prog_12_method_21_code 18 (.iload_n 1) 1 19 := ⟨by decide +kernel, rfl⟩
theorem d_X10_waits_19 : q_dec prog_12_method_21_code 19 (.imul) 1 20 := ⟨by decide +kernel, rfl⟩
theorem d_X10_waits_20 : q_dec prog_12_method_21_code 20 (.iaload) 1 21 := ⟨by decide +kernel, rfl⟩
theorem d_X10_waits_21 : q_dec prog_12_method_21_code 21 (.invokevirtual 99) 3 24 := ⟨by decide +kernel, rfl⟩
theorem d_X10_waits_24 : q_dec prog_12_method_21_code 24 (.iconst 0) 1 25 := ⟨by decide +kernel, rfl⟩
theorem d_X10_waits_25 : q_dec prog_12_method_21_code 25 (.ireturn) 1 26 := ⟨by decide +kernel, rfl⟩
theorem m_X10_waits : q_wV y_X10_waits prog_12_method_21_code 2 (some .int) 1 := ⟨q_mem 835 (by decide +kernel) (by decide +kernel), q_mem 834 (by decide +kernel) (by decide +kernel), q_memS (n := 22) 24 (by decide +kernel), q_mem 11 (by decide +kernel) (by decide +kernel), by decide +kernel⟩
theorem d_X10_stone_0 : q_dec prog_12_method_22_code 0 (.aload_n 0) 1 1 := ⟨by decide +kernel, rfl⟩
theorem d_X10_stone_1 : q_dec prog_12_method_22_code 1 (.iload_n 1) 1 2 := ⟨by decide +kernel, rfl⟩
theorem d_X10_stone_2 : q_dec prog_12_method_22_code 2 (.invokevirtual 77) 3 5 := ⟨by decide +kernel, rfl⟩
theorem d_X10_stone_5 : q_dec prog_12_method_22_code 5 (.ifCond .ne 5) 3 8 := ⟨by decide +kernel, rfl⟩
theorem d_X10_stone_8 : q_dec prog_12_method_22_code 8 (.iconst 1) 1 9 := ⟨by decide +kernel, rfl⟩
theorem d_X10_stone_9 : q_dec prog_12_method_22_code 9 (.ireturn) 1 10 := ⟨by decide +kernel, rfl⟩
theorem d_X10_stone_10 : q_dec prog_12_method_22_code 10 (.aload_n 0) 1 11 := ⟨by decide +kernel, rfl⟩
theorem d_X10_stone_11 : q_dec prog_12_method_22_code 11 (.iload_n 1) 1 12 := ⟨by decide +kernel, rfl⟩
theorem d_X10_stone_12 : q_dec prog_12_method_22_code 12 (.invokevirtual 96) 3 15 := ⟨by decide +kernel, rfl⟩
theorem d_X10_stone_15 : q_dec prog_12_method_22_code 15 (.istore_n 2) 1 16 := ⟨by decide +kernel, rfl⟩
theorem d_X10_stone_16 : q_dec prog_12_method_22_code 16 (.iload_n 2) 1 17 := ⟨by decide +kernel, rfl⟩
theorem d_X10_stone_17 : q_dec prog_12_method_22_code 17 (.ifCond .lt 24) 3 20 := ⟨by decide +kernel, rfl⟩
theorem d_X10_stone_20 : q_dec prog_12_method_22_code 20 (.aload_n 0) 1 21 := ⟨by decide +kernel, rfl⟩
theorem d_X10_stone_21 : q_dec prog_12_method_22_code 21 (.iload_n 1) 1 22 := ⟨by decide +kernel, rfl⟩
theorem d_X10_stone_22 : q_dec prog_12_method_22_code 22 (.invokevirtual 93) 3 25 := ⟨by decide +kernel, rfl⟩
theorem d_X10_stone_25 : q_dec prog_12_method_22_code 25 (.ifCond .eq 18) 3 28 := ⟨by decide +kernel, rfl⟩
theorem d_X10_stone_28 : q_dec prog_12_method_22_code 28 (.iload_n 2) 1 29 := ⟨by decide +kernel, rfl⟩
theorem d_X10_stone_29 : q_dec prog_12_method_22_code 29 (.aload_n 0) 1 30 := ⟨by decide +kernel, rfl⟩
theorem d_X10_stone_30 : q_dec prog_12_method_22_code 30 (.getfield 13) 3 33 := ⟨by decide +kernel, rfl⟩
theorem d_X10_stone_33 : q_dec prog_12_method_22_code 33 (.bipush 6) 2 35 := ⟨by decide +kernel, rfl⟩
theorem d_X10_stone_35 : q_dec prog_12_method_22_code 35 (.iload_n 1) 1 36 := ⟨by decide +kernel, rfl⟩
theorem d_X10_stone_36 : q_dec prog_12_method_22_code 36 (.imul) 1 37 := ⟨by decide +kernel, rfl⟩
theorem d_X10_stone_37 : q_dec prog_12_method_22_code 37 (.iaload) 1 38 := ⟨by decide +kernel, rfl⟩
theorem d_X10_stone_38 : q_dec prog_12_method_22_code 38 (.if_icmp .eq 5) 3 41 := ⟨by decide +kernel, rfl⟩
theorem d_X10_stone_41 : q_dec prog_12_method_22_code 41 (.iconst 5) 1 42 := ⟨by decide +kernel, rfl⟩
theorem d_X10_stone_42 : q_dec prog_12_method_22_code 42 (.ireturn) 1 43 := ⟨by decide +kernel, rfl⟩
theorem d_X10_stone_43 : q_dec prog_12_method_22_code 43 (.aload_n 0) 1 44 := ⟨by decide +kernel, rfl⟩
theorem d_X10_stone_44 : q_dec prog_12_method_22_code 44 (.iload_n 1) 1 45 := ⟨by decide +kernel, rfl⟩
theorem d_X10_stone_45 : q_dec prog_12_method_22_code 45 (.invokevirtual 93) 3 48 := ⟨by decide +kernel, rfl⟩
theorem d_X10_stone_48 : q_dec prog_12_method_22_code 48 (.ifCond .eq 22) 3 51 := ⟨by decide +kernel, rfl⟩
theorem d_X10_stone_51 : q_dec prog_12_method_22_code 51 (.aload_n 0) 1 52 := ⟨by decide +kernel, rfl⟩
theorem d_X10_stone_52 : q_dec prog_12_method_22_code 52 (.getfield 13) 3 55 := ⟨by decide +kernel, rfl⟩
theorem d_X10_stone_55 : q_dec prog_12_method_22_code 55 (.bipush 36) 2 57 := ⟨by decide +kernel, rfl⟩
theorem d_X10_stone_57 : q_dec prog_12_method_22_code 57 (.iload_n 1) 1 58 := ⟨by decide +kernel, rfl⟩
theorem d_X10_stone_58 : q_dec prog_12_method_22_code 58 (.iadd) 1 59 := ⟨by decide +kernel, rfl⟩
theorem d_X10_stone_59 : q_dec prog_12_method_22_code 59 (.bipush (-6)) 2 61 := ⟨by decide +kernel, rfl⟩
theorem d_X10_stone_61 : q_dec prog_12_method_22_code 61 (.iastore) 1 62 := ⟨by decide +kernel, rfl⟩
theorem d_X10_stone_62 : q_dec prog_12_method_22_code 62 (.aload_n 0) 1 63 := ⟨by decide +kernel, rfl⟩
theorem d_X10_stone_63 : q_dec prog_12_method_22_code 63 (.iload_n 1) 1 64 := ⟨by decide +kernel, rfl⟩
theorem d_X10_stone_64 : q_dec prog_12_method_22_code 64 (.invokevirtual 103) 3 67 := ⟨by decide +kernel, rfl⟩
theorem d_X10_stone_67 : q_dec prog_12_method_22_code 67 (.goto 23) 3 70 := ⟨by decide +kernel, rfl⟩
theorem d_X10_stone_70 : q_dec prog_12_method_22_code 70 (.aload_n 0) 1 71 := ⟨by decide +kernel, rfl⟩
theorem d_X10_stone_71 : q_dec prog_12_method_22_code 71 (.getfield 13) 3 74 := ⟨by decide +kernel, rfl⟩
theorem d_X10_stone_74 : q_dec prog_12_method_22_code 74 (.bipush 36) 2 76 := ⟨by decide +kernel, rfl⟩
theorem d_X10_stone_76 : q_dec prog_12_method_22_code 76 (.iload_n 1) 1 77 := ⟨by decide +kernel, rfl⟩
theorem d_X10_stone_77 : q_dec prog_12_method_22_code 77 (.iadd) 1 78 := ⟨by decide +kernel, rfl⟩
theorem d_X10_stone_78 : q_dec prog_12_method_22_code 78 (.iload_n 2) 1 79 := ⟨by decide +kernel, rfl⟩
theorem d_X10_stone_79 : q_dec prog_12_method_22_code 79 (.iastore) 1 80 := ⟨by decide +kernel, rfl⟩
theorem d_X10_stone_80 : q_dec prog_12_method_22_code 80 (.aload_n 0) 1 81 := ⟨by decide +kernel, rfl⟩
theorem d_X10_stone_81 : q_dec prog_12_method_22_code 81 (.getfield 13) 3 84 := ⟨by decide +kernel, rfl⟩
theorem d_X10_stone_84 : q_dec prog_12_method_22_code 84 (.bipush 42) 2 86 := ⟨by decide +kernel, rfl⟩
theorem d_X10_stone_86 : q_dec prog_12_method_22_code 86 (.iload_n 1) 1 87 := ⟨by decide +kernel, rfl⟩
theorem d_X10_stone_87 : q_dec prog_12_method_22_code 87 (.iadd) 1 88 := ⟨by decide +kernel, rfl⟩
theorem d_X10_stone_88 : q_dec prog_12_method_22_code 88 (.iconst 1) 1 89 := ⟨by decide +kernel, rfl⟩
theorem d_X10_stone_89 : q_dec prog_12_method_22_code 89 (.iastore) 1 90 := ⟨by decide +kernel, rfl⟩
theorem d_X10_stone_90 : q_dec prog_12_method_22_code 90 (.iconst 0) 1 91 := ⟨by decide +kernel, rfl⟩
theorem d_X10_stone_91 : q_dec prog_12_method_22_code 91 (.ireturn) 1 92 := ⟨by decide +kernel, rfl⟩
theorem m_X10_stone : q_wV y_X10_stone prog_12_method_22_code 3 (some .int) 1 := ⟨q_mem 843 (by decide +kernel) (by decide +kernel), q_mem 842 (by decide +kernel) (by decide +kernel), q_memS (n := 22) 26 (by decide +kernel), q_mem 11 (by decide +kernel) (by decide +kernel), by decide +kernel⟩
theorem d_X10_blow_0 : q_dec prog_12_method_23_code 0 (.aload_n 0) 1 1 := ⟨by decide +kernel, rfl⟩
theorem d_X10_blow_1 : q_dec prog_12_method_23_code 1 (.getfield 13) 3 4 := ⟨by decide +kernel, rfl⟩
theorem d_X10_blow_4 : q_dec prog_12_method_23_code 4 (.bipush 48) 2 6 := ⟨by decide +kernel, rfl⟩
theorem d_X10_blow_6 : q_dec prog_12_method_23_code 6 (.iconst 1) 1 7 := ⟨by decide +kernel, rfl⟩
theorem d_X10_blow_7 : q_dec prog_12_method_23_code 7 (.aload_n 0) 1 8 := ⟨by decide +kernel, rfl⟩
theorem d_X10_blow_8 : q_dec prog_12_method_23_code 8 (.getfield 13) 3 11 := ⟨by decide +kernel, rfl⟩
theorem d_X10_blow_11 : q_dec prog_12_method_23_code 11 (.bipush 48) 2 13 := ⟨by decide +kernel, rfl⟩
theorem d_X10_blow_13 : q_dec prog_12_method_23_code 13 (.iaload) 1 14 := ⟨by decide +kernel, rfl⟩
theorem d_X10_blow_14 : q_dec prog_12_method_23_code 14 (.isub) 1 15 := ⟨by decide +kernel, rfl⟩
theorem d_X10_blow_15 : q_dec prog_12_method_23_code 15 (.iastore) 1 16 := ⟨by decide +kernel, rfl⟩
theorem d_X10_blow_16 : q_dec prog_12_method_23_code 16 (.iconst 0) 1 17 := ⟨by decide +kernel, rfl⟩
theorem d_X10_blow_17 : q_dec prog_12_method_23_code 17 (.istore_n 1) 1 18 := ⟨by decide +kernel, rfl⟩
theorem d_X10_blow_18 : q_dec prog_12_method_23_code 18 (.iload_n 1) 1 19 := ⟨by decide +kernel, rfl⟩
theorem d_X10_blow_19 : q_dec prog_12_method_23_code 19 (.bipush 6) 2 21 := ⟨by decide +kernel, rfl⟩
theorem d_X10_blow_21 : q_dec prog_12_method_23_code 21 (.if_icmp .ge 30) 3 24 := ⟨by decide +kernel, rfl⟩
theorem d_X10_blow_24 : q_dec prog_12_method_23_code 24 (.aload_n 0) 1 25 := ⟨by decide +kernel, rfl⟩
theorem d_X10_blow_25 : q_dec prog_12_method_23_code 25 (.iload_n 1) 1 26 := ⟨by decide +kernel, rfl⟩
theorem d_X10_blow_26 : q_dec prog_12_method_23_code 26 (.invokevirtual 77) 3 29 := ⟨by decide +kernel, rfl⟩
theorem d_X10_blow_29 : q_dec prog_12_method_23_code 29 (.ifCond .eq 16) 3 32 := ⟨by decide +kernel, rfl⟩
theorem d_X10_blow_32 : q_dec prog_12_method_23_code 32 (.aload_n 0) 1 33 := ⟨by decide +kernel, rfl⟩
theorem d_X10_blow_33 : q_dec prog_12_method_23_code 33 (.iload_n 1) 1 34 := ⟨by decide +kernel, rfl⟩
theorem d_X10_blow_34 : q_dec prog_12_method_23_code 34 (.invokevirtual 93) 3 37 := ⟨by decide +kernel, rfl⟩
theorem d_X10_blow_37 : q_dec prog_12_method_23_code 37 (.ifCond .ne 8) 3 40 := ⟨by decide +kernel, rfl⟩
theorem d_X10_blow_40 : q_dec prog_12_method_23_code 40 (.aload_n 0) 1 41 := ⟨by decide +kernel, rfl⟩
theorem d_X10_blow_41 : q_dec prog_12_method_23_code 41 (.iload_n 1) 1 42 := ⟨by decide +kernel, rfl⟩
theorem d_X10_blow_42 : q_dec prog_12_method_23_code 42 (.invokevirtual 103) 3 45 := ⟨by decide +kernel, rfl⟩
theorem d_X10_blow_45 : q_dec prog_12_method_23_code 45 (.iinc 1 1) 3 48 := ⟨by decide +kernel, rfl⟩
theorem d_X10_blow_48 : q_dec prog_12_method_23_code 48 (.goto (-30)) 3 51 := ⟨by decide +kernel, rfl⟩
theorem d_X10_blow_51 : q_dec prog_12_method_23_code 51 (.return_) 1 52 := ⟨by decide +kernel, rfl⟩
theorem m_X10_blow : q_wV y_X10_blow prog_12_method_23_code 2 none 0 := ⟨q_mem 815 (by decide +kernel) (by decide +kernel), q_mem 814 (by decide +kernel) (by decide +kernel), q_memS (n := 22) 19 (by decide +kernel), q_mem 11 (by decide +kernel) (by decide +kernel), by decide +kernel⟩
theorem d_X10_beat_0 : q_dec prog_12_method_24_code 0 (.aload_n 0) 1 1 := ⟨by decide +kernel, rfl⟩
theorem d_X10_beat_1 : q_dec prog_12_method_24_code 1 (.getfield 13) 3 4 := ⟨by decide +kernel, rfl⟩
theorem d_X10_beat_4 : q_dec prog_12_method_24_code 4 (.bipush 49) 2 6 := ⟨by decide +kernel, rfl⟩
theorem d_X10_beat_6 : q_dec prog_12_method_24_code 6 (.iaload) 1 7 := ⟨by decide +kernel, rfl⟩
theorem d_X10_beat_7 : q_dec prog_12_method_24_code 7 (.sipush 999) 3 10 := ⟨by decide +kernel, rfl⟩
theorem d_X10_beat_10 : q_dec prog_12_method_24_code 10 (.if_icmp .ne 6) 3 13 := ⟨by decide +kernel, rfl⟩
theorem d_X10_beat_13 : q_dec prog_12_method_24_code 13 (.bipush 6) 2 15 := ⟨by decide +kernel, rfl⟩
theorem d_X10_beat_15 : q_dec prog_12_method_24_code 15 (.ireturn) 1 16 := ⟨by decide +kernel, rfl⟩
theorem d_X10_beat_16 : q_dec prog_12_method_24_code 16 (.aload_n 0) 1 17 := ⟨by decide +kernel, rfl⟩
theorem d_X10_beat_17 : q_dec prog_12_method_24_code 17 (.getfield 13) 3 20 := ⟨by decide +kernel, rfl⟩
theorem d_X10_beat_20 : q_dec prog_12_method_24_code 20 (.bipush 49) 2 22 := ⟨by decide +kernel, rfl⟩
theorem d_X10_beat_22 : q_dec prog_12_method_24_code 22 (.dup2) 1 23 := ⟨by decide +kernel, rfl⟩
theorem d_X10_beat_23 : q_dec prog_12_method_24_code 23 (.iaload) 1 24 := ⟨by decide +kernel, rfl⟩
theorem d_X10_beat_24 : q_dec prog_12_method_24_code 24 (.iconst 1) 1 25 := ⟨by decide +kernel, rfl⟩
theorem d_X10_beat_25 : q_dec prog_12_method_24_code 25 (.iadd) 1 26 := ⟨by decide +kernel, rfl⟩
theorem d_X10_beat_26 : q_dec prog_12_method_24_code 26 (.iastore) 1 27 := ⟨by decide +kernel, rfl⟩
theorem d_X10_beat_27 : q_dec prog_12_method_24_code 27 (.iconst 0) 1 28 := ⟨by decide +kernel, rfl⟩
theorem d_X10_beat_28 : q_dec prog_12_method_24_code 28 (.istore_n 1) 1 29 := ⟨by decide +kernel, rfl⟩
theorem d_X10_beat_29 : q_dec prog_12_method_24_code 29 (.iload_n 1) 1 30 := ⟨by decide +kernel, rfl⟩
theorem d_X10_beat_30 : q_dec prog_12_method_24_code 30 (.bipush 6) 2 32 := ⟨by decide +kernel, rfl⟩
theorem d_X10_beat_32 : q_dec prog_12_method_24_code 32 (.if_icmp .ge 97) 3 35 := ⟨by decide +kernel, rfl⟩
theorem d_X10_beat_35 : q_dec prog_12_method_24_code 35 (.aload_n 0) 1 36 := ⟨by decide +kernel, rfl⟩
theorem d_X10_beat_36 : q_dec prog_12_method_24_code 36 (.iload_n 1) 1 37 := ⟨by decide +kernel, rfl⟩
theorem d_X10_beat_37 : q_dec prog_12_method_24_code 37 (.invokevirtual 77) 3 40 := ⟨by decide +kernel, rfl⟩
theorem d_X10_beat_40 : q_dec prog_12_method_24_code 40 (.ifCond .eq 83) 3 43 := ⟨by decide +kernel, rfl⟩
theorem d_X10_beat_43 : q_dec prog_12_method_24_code 43 (.aload_n 0) 1 44 := ⟨by decide +kernel, rfl⟩
theorem d_X10_beat_44 : q_dec prog_12_method_24_code 44 (.iload_n 1) 1 45 := ⟨by decide +kernel, rfl⟩
theorem d_X10_beat_45 : q_dec prog_12_method_24_code 45 (.invokevirtual 93) 3 48 := ⟨by decide +kernel, rfl⟩
theorem d_X10_beat_48 : q_dec prog_12_method_24_code 48 (.ifCond .eq 75) 3 51 := ⟨by decide +kernel, rfl⟩
theorem d_X10_beat_51 : q_dec prog_12_method_24_code 51 (.aload_n 0) 1 52 := ⟨by decide +kernel, rfl⟩
theorem d_X10_beat_52 : q_dec prog_12_method_24_code 52 (.getfield 13) 3 55 := ⟨by decide +kernel, rfl⟩
theorem d_X10_beat_55 : q_dec prog_12_method_24_code 55 (.bipush 42) 2 57 := ⟨by decide +kernel, rfl⟩
theorem d_X10_beat_57 : q_dec prog_12_method_24_code 57 (.iload_n 1) 1 58 := ⟨by decide +kernel, rfl⟩
theorem d_X10_beat_58 : q_dec prog_12_method_24_code 58 (.iadd) 1 59 := ⟨by decide +kernel, rfl⟩
theorem d_X10_beat_59 : q_dec prog_12_method_24_code 59 (.iaload) 1 60 := ⟨by decide +kernel, rfl⟩
theorem d_X10_beat_60 : q_dec prog_12_method_24_code 60 (.iconst 1) 1 61 := ⟨by decide +kernel, rfl⟩
theorem d_X10_beat_61 : q_dec prog_12_method_24_code 61 (.if_icmp .ne 7) 3 64 := ⟨by decide +kernel, rfl⟩
theorem d_X10_beat_64 : q_dec prog_12_method_24_code 64 (.iconst 1) 1 65 := ⟨by decide +kernel, rfl⟩
theorem d_X10_beat_65 : q_dec prog_12_method_24_code 65 (.goto 4) 3 68 := ⟨by decide +kernel, rfl⟩
theorem d_X10_beat_68 : q_dec prog_12_method_24_code 68 (.iconst (-1)) 1 69 := ⟨by decide +kernel, rfl⟩
theorem d_X10_beat_69 : q_dec prog_12_method_24_code 69 (.istore_n 2) 1 70 := ⟨by decide +kernel, rfl⟩
theorem d_X10_beat_70 : q_dec prog_12_method_24_code 70 (.aload_n 0) 1 71 := ⟨by decide +kernel, rfl⟩
theorem d_X10_beat_71 : q_dec prog_12_method_24_code 71 (.getfield 13) 3 74 := ⟨by decide +kernel, rfl⟩
theorem d_X10_beat_74 : q_dec prog_12_method_24_code 74 (.bipush 36) 2 76 := ⟨by decide +kernel, rfl⟩
theorem d_X10_beat_76 : q_dec prog_12_method_24_code 76 (.iload_n 1) 1 77 := ⟨by decide +kernel, rfl⟩
theorem d_X10_beat_77 : q_dec prog_12_method_24_code 77 (.iadd) 1 78 := ⟨by decide +kernel, rfl⟩
theorem d_X10_beat_78 : q_dec prog_12_method_24_code 78 (.iaload) 1 79 := ⟨by decide +kernel, rfl⟩
theorem d_X10_beat_79 : q_dec prog_12_method_24_code 79 (.iload_n 2) 1 80 := ⟨by decide +kernel, rfl⟩
theorem d_X10_beat_80 : q_dec prog_12_method_24_code 80 (.iadd) 1 81 := ⟨by decide +kernel, rfl⟩
theorem d_X10_beat_81 : q_dec prog_12_method_24_code 81 (.invokestatic 66) 3 84 := ⟨by decide +kernel, rfl⟩
theorem d_X10_beat_84 : q_dec prog_12_method_24_code 84 (.ifCond .ne 26) 3 87 := ⟨by decide +kernel, rfl⟩
theorem d_X10_beat_87 : q_dec prog_12_method_24_code 87 (.iload_n 2) 1 88 := ⟨by decide +kernel, rfl⟩
theorem d_X10_beat_88 : q_dec prog_12_method_24_code 88 (.ineg) 1 89 := ⟨by decide +kernel, rfl⟩
theorem d_X10_beat_89 : q_dec prog_12_method_24_code 89 (.istore_n 2) 1 90 := ⟨by decide +kernel, rfl⟩
theorem d_X10_beat_90 : q_dec prog_12_method_24_code 90 (.aload_n 0) 1 91 := ⟨by decide +kernel, rfl⟩
theorem d_X10_beat_91 : q_dec prog_12_method_24_code 91 (.getfield 13) 3 94 := ⟨by decide +kernel, rfl⟩
theorem d_X10_beat_94 : q_dec prog_12_method_24_code 94 (.bipush 42) 2 96 := ⟨by decide +kernel, rfl⟩
theorem d_X10_beat_96 : q_dec prog_12_method_24_code 96 (.iload_n 1) 1 97 := ⟨by decide +kernel, rfl⟩
theorem d_X10_beat_97 : q_dec prog_12_method_24_code 97 (.iadd) 1 98 := ⟨by decide +kernel, rfl⟩
theorem d_X10_beat_98 : q_dec prog_12_method_24_code 98 (.iconst 1) 1 99 := ⟨by decide +kernel, rfl⟩
theorem d_X10_beat_99 : q_dec prog_12_method_24_code 99 (.aload_n 0) 1 100 := ⟨by decide +kernel, rfl⟩
theorem d_X10_beat_100 : q_dec prog_12_method_24_code 100 (.getfield 13) 3 103 := ⟨by decide +kernel, rfl⟩
theorem d_X10_beat_103 : q_dec prog_12_method_24_code 103 (.bipush 42) 2 105 := ⟨by decide +kernel, rfl⟩
theorem d_X10_beat_105 : q_dec prog_12_method_24_code 105 (.iload_n 1) 1 106 := ⟨by decide +kernel, rfl⟩
theorem d_X10_beat_106 : q_dec prog_12_method_24_code 106 (.iadd) 1 107 := ⟨by decide +kernel, rfl⟩
theorem d_X10_beat_107 : q_dec prog_12_method_24_code 107 (.iaload) 1 108 := ⟨by decide +kernel, rfl⟩
theorem d_X10_beat_108 : q_dec prog_12_method_24_code 108 (.isub) 1 109 := ⟨by decide +kernel, rfl⟩
theorem d_X10_beat_109 : q_dec prog_12_method_24_code 109 (.iastore) 1 110 := ⟨by decide +kernel, rfl⟩
theorem d_X10_beat_110 : q_dec prog_12_method_24_code 110 (.aload_n 0) 1 111 := ⟨by decide +kernel, rfl⟩
theorem d_X10_beat_111 : q_dec prog_12_method_24_code 111 (.getfield 13) 3 114 := ⟨by decide +kernel, rfl⟩
theorem d_X10_beat_114 : q_dec prog_12_method_24_code 114 (.bipush 36) 2 116 := ⟨by decide +kernel, rfl⟩
theorem d_X10_beat_116 : q_dec prog_12_method_24_code 116 (.iload_n 1) 1 117 := ⟨by decide +kernel, rfl⟩
theorem d_X10_beat_117 : q_dec prog_12_method_24_code 117 (.iadd) 1 118 := ⟨by decide +kernel, rfl⟩
theorem d_X10_beat_118 : q_dec prog_12_method_24_code 118 (.dup2) 1 119 := ⟨by decide +kernel, rfl⟩
theorem d_X10_beat_119 : q_dec prog_12_method_24_code 119 (.iaload) 1 120 := ⟨by decide +kernel, rfl⟩
theorem d_X10_beat_120 : q_dec prog_12_method_24_code 120 (.iload_n 2) 1 121 := ⟨by decide +kernel, rfl⟩
theorem d_X10_beat_121 : q_dec prog_12_method_24_code 121 (.iadd) 1 122 := ⟨by decide +kernel, rfl⟩
theorem d_X10_beat_122 : q_dec prog_12_method_24_code 122 (.iastore) 1 123 := ⟨by decide +kernel, rfl⟩
theorem d_X10_beat_123 : q_dec prog_12_method_24_code 123 (.iinc 1 1) 3 126 := ⟨by decide +kernel, rfl⟩
theorem d_X10_beat_126 : q_dec prog_12_method_24_code 126 (.goto (-97)) 3 129 := ⟨by decide +kernel, rfl⟩
theorem d_X10_beat_129 : q_dec prog_12_method_24_code 129 (.iconst 0) 1 130 := ⟨by decide +kernel, rfl⟩
theorem d_X10_beat_130 : q_dec prog_12_method_24_code 130 (.ireturn) 1 131 := ⟨by decide +kernel, rfl⟩
theorem m_X10_beat : q_wV y_X10_beat prog_12_method_24_code 3 (some .int) 0 := ⟨q_mem 827 (by decide +kernel) (by decide +kernel), q_mem 826 (by decide +kernel) (by decide +kernel), q_memS (n := 22) 22 (by decide +kernel), q_mem 11 (by decide +kernel) (by decide +kernel), by decide +kernel⟩
theorem d_X10_verb_0 : q_dec prog_12_method_25_code 0 (.iload_n 2) 1 1 := ⟨by decide +kernel, rfl⟩
theorem d_X10_verb_1 : q_dec prog_12_method_25_code 1 (.bipush 61) 2 3 := ⟨by decide +kernel, rfl⟩
theorem d_X10_verb_3 : q_dec prog_12_method_25_code 3 (.if_icmp .ne 11) 3 6 := ⟨by decide +kernel, rfl⟩
theorem d_X10_verb_6 : q_dec prog_12_method_25_code 6 (.aload_n 0) 1 7 := ⟨by decide +kernel, rfl⟩
theorem d_X10_verb_7 : q_dec prog_12_method_25_code 7 (.iload_n 1) 1 8 := ⟨by decide +kernel, rfl⟩
theorem d_X10_verb_8 : q_dec prog_12_method_25_code 8 (.invokevirtual 107) 3 11 := ⟨by decide +kernel, rfl⟩
theorem d_X10_verb_11 : q_dec prog_12_method_25_code 11 (.goto 33) 3 14 := ⟨by decide +kernel, rfl⟩
theorem d_X10_verb_14 : q_dec prog_12_method_25_code 14 (.iload_n 2) 1 15 := ⟨by decide +kernel, rfl⟩
theorem d_X10_verb_15 : q_dec prog_12_method_25_code 15 (.bipush 42) 2 17 := ⟨by decide +kernel, rfl⟩
theorem d_X10_verb_17 : q_dec prog_12_method_25_code 17 (.if_icmp .ne 11) 3 20 := ⟨by decide +kernel, rfl⟩
theorem d_X10_verb_20 : q_dec prog_12_method_25_code 20 (.aload_n 0) 1 21 := ⟨by decide +kernel, rfl⟩
theorem d_X10_verb_21 : q_dec prog_12_method_25_code 21 (.iload_n 1) 1 22 := ⟨by decide +kernel, rfl⟩
theorem d_X10_verb_22 : q_dec prog_12_method_25_code 22 (.invokevirtual 110) 3 25 := ⟨by decide +kernel, rfl⟩
theorem d_X10_verb_25 : q_dec prog_12_method_25_code 25 (.goto 19) 3 28 := ⟨by decide +kernel, rfl⟩
theorem d_X10_verb_28 : q_dec prog_12_method_25_code 28 (.aload_n 0) 1 29 := ⟨by decide +kernel, rfl⟩
theorem d_X10_verb_29 : q_dec prog_12_method_25_code 29 (.iload_n 1) 1 30 := ⟨by decide +kernel, rfl⟩
theorem d_X10_verb_30 : q_dec prog_12_method_25_code 30 (.iload_n 2) 1 31 := ⟨by decide +kernel, rfl⟩
theorem d_X10_verb_31 : q_dec prog_12_method_25_code 31 (.bipush 60) 2 33 := ⟨by decide +kernel, rfl⟩
theorem d_X10_verb_33 : q_dec prog_12_method_25_code 33 (.if_icmp .ne 7) 3 36 := ⟨by decide +kernel, rfl⟩
theorem d_X10_verb_36 : q_dec prog_12_method_25_code 36 (.iconst (-1)) 1 37 := ⟨by decide +kernel, rfl⟩
theorem d_X10_verb_37 : q_dec prog_12_method_25_code 37 (.goto 4) 3 40 := ⟨by decide +kernel, rfl⟩
theorem d_X10_verb_40 : q_dec prog_12_method_25_code 40 (.iconst 1) 1 41 := ⟨by decide +kernel, rfl⟩
theorem d_X10_verb_41 : q_dec prog_12_method_25_code 41 (.invokevirtual 113) 3 44 := ⟨by decide +kernel, rfl⟩
theorem d_X10_verb_44 : q_dec prog_12_method_25_code 44 (.ireturn) 1 45 := ⟨by decide +kernel, rfl⟩
theorem m_X10_verb : q_wV y_X10_verb prog_12_method_25_code 3 (some .int) 2 := ⟨q_mem 831 (by decide +kernel) (by decide +kernel), q_mem 830 (by decide +kernel) (by decide +kernel), q_memS (n := 22) 23 (by decide +kernel), q_mem 11 (by decide +kernel) (by decide +kernel), by decide +kernel⟩
theorem d_X10_goDays_0 : q_dec prog_12_method_26_code 0 (.aload_n 0) 1 1 := ⟨by decide +kernel, rfl⟩
theorem d_X10_goDays_1 : q_dec prog_12_method_26_code 1 (.invokevirtual 117) 3 4 := ⟨by decide +kernel, rfl⟩
theorem d_X10_goDays_4 : q_dec prog_12_method_26_code 4 (.aload_n 0) 1 5 := ⟨by decide +kernel, rfl⟩
theorem d_X10_goDays_5 : q_dec prog_12_method_26_code 5 (.iconst 0) 1 6 := ⟨by decide +kernel, rfl⟩
theorem d_X10_goDays_6 : q_dec prog_12_method_26_code 6 (.putfield 120) 3 9 := ⟨by decide +kernel, rfl⟩
theorem d_X10_goDays_9 : q_dec prog_12_method_26_code 9 (.iconst 0) 1 10 := ⟨by decide +kernel, rfl⟩
theorem d_X10_goDays_10 : q_dec prog_12_method_26_code 10 (.istore_n 1) 1 11 := ⟨by decide +kernel, rfl⟩
theorem d_X10_goDays_11 : q_dec prog_12_method_26_code 11 (.iload_n 1) 1 12 := ⟨by decide +kernel, rfl⟩
theorem d_X10_goDays_12 : q_dec prog_12_method_26_code 12 (.aload_n 0) 1 13 := ⟨by decide +kernel, rfl⟩
theorem d_X10_goDays_13 : q_dec prog_12_method_26_code 13 (.getfield 80) 3 16 := ⟨by decide +kernel, rfl⟩
theorem d_X10_goDays_16 : q_dec prog_12_method_26_code 16 (.if_icmp .ge 159) 3 19 := ⟨by decide +kernel, rfl⟩
theorem d_X10_goDays_19 : q_dec prog_12_method_26_code 19 (.aload_n 0) 1 20 := ⟨by decide +kernel, rfl⟩
theorem d_X10_goDays_20 : q_dec prog_12_method_26_code 20 (.getfield 26) 3 23 := ⟨by decide +kernel, rfl⟩
theorem d_X10_goDays_23 : q_dec prog_12_method_26_code 23 (.iload_n 1) 1 24 := ⟨by decide +kernel, rfl⟩
theorem d_X10_goDays_24 : q_dec prog_12_method_26_code 24 (.iaload) 1 25 := ⟨by decide +kernel, rfl⟩
theorem d_X10_goDays_25 : q_dec prog_12_method_26_code 25 (.istore_n 2) 1 26 := ⟨by decide +kernel, rfl⟩
theorem d_X10_goDays_26 : q_dec prog_12_method_26_code 26 (.aload_n 0) 1 27 := ⟨by decide +kernel, rfl⟩
theorem d_X10_goDays_27 : q_dec prog_12_method_26_code 27 (.iconst 0) 1 28 := ⟨by decide +kernel, rfl⟩
theorem d_X10_goDays_28 : q_dec prog_12_method_26_code 28 (.putfield 123) 3 31 := ⟨by decide +kernel, rfl⟩
theorem d_X10_goDays_31 : q_dec prog_12_method_26_code 31 (.iload_n 2) 1 32 := ⟨by decide +kernel, rfl⟩
theorem d_X10_goDays_32 : q_dec prog_12_method_26_code 32 (.bipush 126) 2 34 := ⟨by decide +kernel, rfl⟩
theorem d_X10_goDays_34 : q_dec prog_12_method_26_code 34 (.if_icmp .ne 10) 3 37 := ⟨by decide +kernel, rfl⟩
theorem d_X10_goDays_37 : q_dec prog_12_method_26_code 37 (.aload_n 0) 1 38 := ⟨by decide +kernel, rfl⟩
theorem d_X10_goDays_38 : q_dec prog_12_method_26_code 38 (.invokevirtual 126) 3 41 := ⟨by decide +kernel, rfl⟩
theorem d_X10_goDays_41 : q_dec prog_12_method_26_code 41 (.goto 106) 3 44 := ⟨by decide +kernel, rfl⟩
theorem d_X10_goDays_44 : q_dec prog_12_method_26_code 44 (.iload_n 2) 1 45 := ⟨by decide +kernel, rfl⟩
theorem d_X10_goDays_45 : q_dec prog_12_method_26_code 45 (.bipush 46) 2 47 := ⟨by decide +kernel, rfl⟩
theorem d_X10_goDays_47 : q_dec prog_12_method_26_code 47 (.if_icmp .ne 14) 3 50 := ⟨by decide +kernel, rfl⟩
theorem d_X10_goDays_50 : q_dec prog_12_method_26_code 50 (.aload_n 0) 1 51 := ⟨by decide +kernel, rfl⟩
theorem d_X10_goDays_51 : q_dec prog_12_method_26_code 51 (.aload_n 0) 1 52 := ⟨by decide +kernel, rfl⟩
theorem d_X10_goDays_52 : q_dec prog_12_method_26_code 52 (.invokevirtual 129) 3 55 := ⟨by decide +kernel, rfl⟩
theorem d_X10_goDays_55 : q_dec prog_12_method_26_code 55 (.putfield 123) 3 58 := ⟨by decide +kernel, rfl⟩
theorem d_X10_goDays_58 : q_dec prog_12_method_26_code 58 (.goto 89) 3 61 := ⟨by decide +kernel, rfl⟩
theorem d_X10_goDays_61 : q_dec prog_12_method_26_code 61 (.iinc 1 1) 3 64 := ⟨by decide +kernel, rfl⟩
theorem d_X10_goDays_64 : q_dec prog_12_method_26_code 64 (.iload_n 2) 1 65 := ⟨by decide +kernel, rfl⟩
theorem d_X10_goDays_65 : q_dec prog_12_method_26_code 65 (.bipush 65) 2 67 := ⟨by decide +kernel, rfl⟩
theorem d_X10_goDays_67 : q_dec prog_12_method_26_code 67 (.isub) 1 68 := ⟨by decide +kernel, rfl⟩
theorem d_X10_goDays_68 : q_dec prog_12_method_26_code 68 (.istore_n 3) 1 69 := ⟨by decide +kernel, rfl⟩
theorem d_X10_goDays_69 : q_dec prog_12_method_26_code 69 (.aload_n 0) 1 70 := ⟨by decide +kernel, rfl⟩
theorem d_X10_goDays_70 : q_dec prog_12_method_26_code 70 (.iload_n 3) 1 71 := ⟨by decide +kernel, rfl⟩
theorem d_X10_goDays_71 : q_dec prog_12_method_26_code 71 (.invokevirtual 77) 3 74 := ⟨by decide +kernel, rfl⟩
theorem d_X10_goDays_74 : q_dec prog_12_method_26_code 74 (.ifCond .eq 15) 3 77 := ⟨by decide +kernel, rfl⟩
theorem d_X10_goDays_77 : q_dec prog_12_method_26_code 77 (.aload_n 0) 1 78 := ⟨by decide +kernel, rfl⟩
theorem d_X10_goDays_78 : q_dec prog_12_method_26_code 78 (.iload_n 3) 1 79 := ⟨by decide +kernel, rfl⟩
theorem d_X10_goDays_79 : q_dec prog_12_method_26_code 79 (.invokevirtual 93) 3 82 := ⟨by decide +kernel, rfl⟩
theorem d_X10_goDays_82 : q_dec prog_12_method_26_code 82 (.ifCond .eq 7) 3 85 := ⟨by decide +kernel, rfl⟩
theorem d_X10_goDays_85 : q_dec prog_12_method_26_code 85 (.iconst 1) 1 86 := ⟨by decide +kernel, rfl⟩
theorem d_X10_goDays_86 : q_dec prog_12_method_26_code 86 (.goto 4) 3 89 := ⟨by decide +kernel, rfl⟩
theorem d_X10_goDays_89 : q_dec prog_12_method_26_code 89 (.iconst 0) 1 90 := ⟨by decide +kernel, rfl⟩
theorem d_X10_goDays_90 : q_dec prog_12_method_26_code 90 (.istore 4) 2 92 := ⟨by decide +kernel, rfl⟩
theorem d_X10_goDays_92 : q_dec prog_12_method_26_code 92 (.aload_n 0) 1 93 := ⟨by decide +kernel, rfl⟩
theorem d_X10_goDays_93 : q_dec prog_12_method_26_code 93 (.aload_n 0) 1 94 := ⟨by decide +kernel, rfl⟩
theorem d_X10_goDays_94 : q_dec prog_12_method_26_code 94 (.iload_n 3) 1 95 := ⟨by decide +kernel, rfl⟩
theorem d_X10_goDays_95 : q_dec prog_12_method_26_code 95 (.aload_n 0) 1 96 := ⟨by decide +kernel, rfl⟩
theorem d_X10_goDays_96 : q_dec prog_12_method_26_code 96 (.getfield 26) 3 99 := ⟨by decide +kernel, rfl⟩
theorem d_X10_goDays_99 : q_dec prog_12_method_26_code 99 (.iload_n 1) 1 100 := ⟨by decide +kernel, rfl⟩
theorem d_X10_goDays_100 : q_dec prog_12_method_26_code 100 (.iaload) 1 101 := ⟨by decide +kernel, rfl⟩
theorem d_X10_goDays_101 : q_dec prog_12_method_26_code 101 (.invokevirtual 132) 3 104 := ⟨by decide +kernel, rfl⟩
theorem d_X10_goDays_104 : q_dec prog_12_method_26_code 104 (.putfield 123) 3 107 := ⟨by decide +kernel, rfl⟩
theorem d_X10_goDays_107 : q_dec prog_12_method_26_code 107 (.aload_n 0) 1 108 := ⟨by decide +kernel, rfl⟩
theorem d_X10_goDays_108 : q_dec prog_12_method_26_code 108 (.getfield 123) 3 111 := ⟨by decide +kernel, rfl⟩
theorem d_X10_goDays_111 : q_dec prog_12_method_26_code 111 (.ifCond .ne 36) 3 114 := ⟨by decide +kernel, rfl⟩
theorem d_X10_goDays_114 : q_dec prog_12_method_26_code 114 (.aload_n 0) 1 115 := ⟨by decide +kernel, rfl⟩
theorem d_X10_goDays_115 : q_dec prog_12_method_26_code 115 (.getfield 87) 3 118 := ⟨by decide +kernel, rfl⟩
theorem d_X10_goDays_118 : q_dec prog_12_method_26_code 118 (.ifCond .ge 29) 3 121 := ⟨by decide +kernel, rfl⟩
theorem d_X10_goDays_121 : q_dec prog_12_method_26_code 121 (.iload 4) 2 123 := ⟨by decide +kernel, rfl⟩
theorem d_X10_goDays_123 : q_dec prog_12_method_26_code 123 (.ifCond .ne 24) 3 126 := ⟨by decide +kernel, rfl⟩
theorem d_X10_goDays_126 : q_dec prog_12_method_26_code 126 (.aload_n 0) 1 127 := ⟨by decide +kernel, rfl⟩
theorem d_X10_goDays_127 : q_dec prog_12_method_26_code 127 (.iload_n 3) 1 128 := ⟨by decide +kernel, rfl⟩
theorem d_X10_goDays_128 : q_dec prog_12_method_26_code 128 (.invokevirtual 93) 3 131 := ⟨by decide +kernel, rfl⟩
theorem d_X10_goDays_131 : q_dec prog_12_method_26_code 131 (.ifCond .eq 16) 3 134 := ⟨by decide +kernel, rfl⟩
theorem d_X10_goDays_134 : q_dec prog_12_method_26_code 134 (.aload_n 0) 1 135 := ⟨by decide +kernel, rfl⟩
theorem d_X10_goDays_135 : q_dec prog_12_method_26_code 135 (.aload_n 0) 1 136 := ⟨by decide +kernel, rfl⟩
theorem d_X10_goDays_136 : q_dec prog_12_method_26_code 136 (.getfield 120) 3 139 := ⟨by decide +kernel, rfl⟩
theorem d_X10_goDays_139 : q_dec prog_12_method_26_code 139 (.putfield 87) 3 142 := ⟨by decide +kernel, rfl⟩
theorem d_X10_goDays_142 : q_dec prog_12_method_26_code 142 (.aload_n 0) 1 143 := ⟨by decide +kernel, rfl⟩
theorem d_X10_goDays_143 : q_dec prog_12_method_26_code 143 (.iload_n 3) 1 144 := ⟨by decide +kernel, rfl⟩
theorem d_X10_goDays_144 : q_dec prog_12_method_26_code 144 (.putfield 90) 3 147 := ⟨by decide +kernel, rfl⟩
theorem d_X10_goDays_147 : q_dec prog_12_method_26_code 147 (.aload_n 0) 1 148 := ⟨by decide +kernel, rfl⟩
theorem d_X10_goDays_148 : q_dec prog_12_method_26_code 148 (.getfield 123) 3 151 := ⟨by decide +kernel, rfl⟩
theorem d_X10_goDays_151 : q_dec prog_12_method_26_code 151 (.ifCond .le 8) 3 154 := ⟨by decide +kernel, rfl⟩
theorem d_X10_goDays_154 : q_dec prog_12_method_26_code 154 (.aload_n 0) 1 155 := ⟨by decide +kernel, rfl⟩
theorem d_X10_goDays_155 : q_dec prog_12_method_26_code 155 (.getfield 120) 3 158 := ⟨by decide +kernel, rfl⟩
theorem d_X10_goDays_158 : q_dec prog_12_method_26_code 158 (.ireturn) 1 159 := ⟨by decide +kernel, rfl⟩
theorem d_X10_goDays_159 : q_dec prog_12_method_26_code 159 (.iinc 1 1) 3 162 := ⟨by decide +kernel, rfl⟩
theorem d_X10_goDays_162 : q_dec prog_12_method_26_code 162 (.aload_n 0) 1 163 := ⟨by decide +kernel, rfl⟩
theorem d_X10_goDays_163 : q_dec prog_12_method_26_code 163 (.dup) 1 164 := ⟨by decide +kernel, rfl⟩
theorem d_X10_goDays_164 : q_dec prog_12_method_26_code 164 (.getfield 120) 3 167 := ⟨by decide +kernel, rfl⟩
theorem d_X10_goDays_167 : q_dec prog_12_method_26_code 167 (.iconst 1) 1 168 := ⟨by decide +kernel, rfl⟩
theorem d_X10_goDays_168 : q_dec prog_12_method_26_code 168 (.iadd) 1 169 := ⟨by decide +kernel, rfl⟩
theorem d_X10_goDays_169 : q_dec prog_12_method_26_code 169 (.putfield 120) 3 172 := ⟨by decide +kernel, rfl⟩
theorem d_X10_goDays_172 : q_dec prog_12_method_26_code 172 (.goto (-161)) 3 175 := ⟨by decide +kernel, rfl⟩
theorem d_X10_goDays_175 : q_dec prog_12_method_26_code 175 (.bipush (-6)) 2 177 := ⟨by decide +kernel, rfl⟩
theorem d_X10_goDays_177 : q_dec prog_12_method_26_code 177 (.ireturn) 1 178 := ⟨by decide +kernel, rfl⟩
theorem m_X10_goDays : q_wV y_X10_goDays prog_12_method_26_code 5 (some .int) 0 := ⟨q_mem 807 (by decide +kernel) (by decide +kernel), q_mem 806 (by decide +kernel) (by decide +kernel), q_memS (n := 22) 17 (by decide +kernel), q_mem 11 (by decide +kernel) (by decide +kernel), by decide +kernel⟩
theorem d_X10_judge_0 : q_dec prog_12_method_27_code 0 (.iload_n 1) 1 1 := ⟨by decide +kernel, rfl⟩
theorem d_X10_judge_1 : q_dec prog_12_method_27_code 1 (.iconst 0) 1 2 := ⟨by decide +kernel, rfl⟩
theorem d_X10_judge_2 : q_dec prog_12_method_27_code 2 (.iconst 1) 1 3 := ⟨by decide +kernel, rfl⟩
theorem d_X10_judge_3 : q_dec prog_12_method_27_code 3 (.invokestatic 55) 3 6 := ⟨by decide +kernel, rfl⟩
theorem d_X10_judge_6 : q_dec prog_12_method_27_code 6 (.ifCond .ne 6) 3 9 := ⟨by decide +kernel, rfl⟩
theorem d_X10_judge_9 : q_dec prog_12_method_27_code 9 (.bipush (-2)) 2 11 := ⟨by decide +kernel, rfl⟩
theorem d_X10_judge_11 : q_dec prog_12_method_27_code 11 (.ireturn) 1 12 := ⟨by decide +kernel, rfl⟩
theorem d_X10_judge_12 : q_dec prog_12_method_27_code 12 (.aload_n 0) 1 13 := ⟨by decide +kernel, rfl⟩
theorem d_X10_judge_13 : q_dec prog_12_method_27_code 13 (.invokevirtual 83) 3 16 := ⟨by decide +kernel, rfl⟩
theorem d_X10_judge_16 : q_dec prog_12_method_27_code 16 (.ifCond .lt 6) 3 19 := ⟨by decide +kernel, rfl⟩
theorem d_X10_judge_19 : q_dec prog_12_method_27_code 19 (.bipush (-5)) 2 21 := ⟨by decide +kernel, rfl⟩
theorem d_X10_judge_21 : q_dec prog_12_method_27_code 21 (.ireturn) 1 22 := ⟨by decide +kernel, rfl⟩
theorem d_X10_judge_22 : q_dec prog_12_method_27_code 22 (.aload_n 0) 1 23 := ⟨by decide +kernel, rfl⟩
theorem d_X10_judge_23 : q_dec prog_12_method_27_code 23 (.invokevirtual 135) 3 26 := ⟨by decide +kernel, rfl⟩
theorem d_X10_judge_26 : q_dec prog_12_method_27_code 26 (.istore_n 2) 1 27 := ⟨by decide +kernel, rfl⟩
theorem d_X10_judge_27 : q_dec prog_12_method_27_code 27 (.iload_n 2) 1 28 := ⟨by decide +kernel, rfl⟩
theorem d_X10_judge_28 : q_dec prog_12_method_27_code 28 (.ifCond .lt 7) 3 31 := ⟨by decide +kernel, rfl⟩
theorem d_X10_judge_31 : q_dec prog_12_method_27_code 31 (.iload_n 1) 1 32 := ⟨by decide +kernel, rfl⟩
theorem d_X10_judge_32 : q_dec prog_12_method_27_code 32 (.ifCond .ne 7) 3 35 := ⟨by decide +kernel, rfl⟩
theorem d_X10_judge_35 : q_dec prog_12_method_27_code 35 (.iload_n 2) 1 36 := ⟨by decide +kernel, rfl⟩
theorem d_X10_judge_36 : q_dec prog_12_method_27_code 36 (.goto 7) 3 39 := ⟨by decide +kernel, rfl⟩
theorem d_X10_judge_39 : q_dec prog_12_method_27_code 39 (.aload_n 0) 1 40 := ⟨by decide +kernel, rfl⟩
theorem d_X10_judge_40 : q_dec prog_12_method_27_code 40 (.getfield 123) 3 43 := ⟨by decide +kernel, rfl⟩
theorem d_X10_judge_43 : q_dec prog_12_method_27_code 43 (.ireturn) 1 44 := ⟨by decide +kernel, rfl⟩
theorem m_X10_judge : q_wV y_X10_judge prog_12_method_27_code 3 (some .int) 1 := ⟨q_mem 803 (by decide +kernel) (by decide +kernel), q_mem 801 (by decide +kernel) (by decide +kernel), q_mem 802 (by decide +kernel) (by decide +kernel), q_mem 11 (by decide +kernel) (by decide +kernel), by decide +kernel⟩
theorem d_X10_barOfDays_0 : q_dec prog_12_method_28_code 0 (.aload_n 0) 1 1 := ⟨by decide +kernel, rfl⟩
theorem d_X10_barOfDays_1 : q_dec prog_12_method_28_code 1 (.invokevirtual 83) 3 4 := ⟨by decide +kernel, rfl⟩
theorem d_X10_barOfDays_4 : q_dec prog_12_method_28_code 4 (.ifCond .ge 10) 3 7 := ⟨by decide +kernel, rfl⟩
theorem d_X10_barOfDays_7 : q_dec prog_12_method_28_code 7 (.aload_n 0) 1 8 := ⟨by decide +kernel, rfl⟩
theorem d_X10_barOfDays_8 : q_dec prog_12_method_28_code 8 (.invokevirtual 135) 3 11 := ⟨by decide +kernel, rfl⟩
theorem d_X10_barOfDays_11 : q_dec prog_12_method_28_code 11 (.ifCond .lt 8) 3 14 := ⟨by decide +kernel, rfl⟩
theorem d_X10_barOfDays_14 : q_dec prog_12_method_28_code 14 (.bipush (-5)) 2 16 := ⟨by decide +kernel, rfl⟩
theorem d_X10_barOfDays_16 : q_dec prog_12_method_28_code 16 (.goto 4) 3 19 := ⟨by decide +kernel, rfl⟩
theorem d_X10_barOfDays_19 : q_dec prog_12_method_28_code 19 (.iconst 0) 1 20 := ⟨by decide +kernel, rfl⟩
theorem d_X10_barOfDays_20 : q_dec prog_12_method_28_code 20 (.ireturn) 1 21 := ⟨by decide +kernel, rfl⟩
theorem m_X10_barOfDays : q_wV y_X10_barOfDays prog_12_method_28_code 1 (some .int) 0 := ⟨q_mem 859 (by decide +kernel) (by decide +kernel), q_mem 858 (by decide +kernel) (by decide +kernel), q_memS (n := 22) 29 (by decide +kernel), q_mem 11 (by decide +kernel) (by decide +kernel), by decide +kernel⟩
theorem d_X10_done_0 : q_dec prog_12_method_29_code 0 (.aload_n 0) 1 1 := ⟨by decide +kernel, rfl⟩
theorem d_X10_done_1 : q_dec prog_12_method_29_code 1 (.invokevirtual 138) 3 4 := ⟨by decide +kernel, rfl⟩
theorem d_X10_done_4 : q_dec prog_12_method_29_code 4 (.ifCond .ge 6) 3 7 := ⟨by decide +kernel, rfl⟩
theorem d_X10_done_7 : q_dec prog_12_method_29_code 7 (.bipush (-5)) 2 9 := ⟨by decide +kernel, rfl⟩
theorem d_X10_done_9 : q_dec prog_12_method_29_code 9 (.ireturn) 1 10 := ⟨by decide +kernel, rfl⟩
theorem d_X10_done_10 : q_dec prog_12_method_29_code 10 (.iconst 0) 1 11 := ⟨by decide +kernel, rfl⟩
theorem d_X10_done_11 : q_dec prog_12_method_29_code 11 (.istore_n 1) 1 12 := ⟨by decide +kernel, rfl⟩
theorem d_X10_done_12 : q_dec prog_12_method_29_code 12 (.iload_n 1) 1 13 := ⟨by decide +kernel, rfl⟩
theorem d_X10_done_13 : q_dec prog_12_method_29_code 13 (.bipush 50) 2 15 := ⟨by decide +kernel, rfl⟩
theorem d_X10_done_15 : q_dec prog_12_method_29_code 15 (.if_icmp .ge 21) 3 18 := ⟨by decide +kernel, rfl⟩
theorem d_X10_done_18 : q_dec prog_12_method_29_code 18 (.aload_n 0) 1 19 := ⟨by decide +kernel, rfl⟩
theorem d_X10_done_19 : q_dec prog_12_method_29_code 19 (.getfield 7) 3 22 := ⟨by decide +kernel, rfl⟩
theorem d_X10_done_22 : q_dec prog_12_method_29_code 22 (.iload_n 1) 1 23 := ⟨by decide +kernel, rfl⟩
theorem d_X10_done_23 : q_dec prog_12_method_29_code 23 (.aload_n 0) 1 24 := ⟨by decide +kernel, rfl⟩
theorem d_X10_done_24 : q_dec prog_12_method_29_code 24 (.getfield 13) 3 27 := ⟨by decide +kernel, rfl⟩
theorem d_X10_done_27 : q_dec prog_12_method_29_code 27 (.iload_n 1) 1 28 := ⟨by decide +kernel, rfl⟩
theorem d_X10_done_28 : q_dec prog_12_method_29_code 28 (.iaload) 1 29 := ⟨by decide +kernel, rfl⟩
theorem d_X10_done_29 : q_dec prog_12_method_29_code 29 (.iastore) 1 30 := ⟨by decide +kernel, rfl⟩
theorem d_X10_done_30 : q_dec prog_12_method_29_code 30 (.iinc 1 1) 3 33 := ⟨by decide +kernel, rfl⟩
theorem d_X10_done_33 : q_dec prog_12_method_29_code 33 (.goto (-21)) 3 36 := ⟨by decide +kernel, rfl⟩
theorem d_X10_done_36 : q_dec prog_12_method_29_code 36 (.aload_n 0) 1 37 := ⟨by decide +kernel, rfl⟩
theorem d_X10_done_37 : q_dec prog_12_method_29_code 37 (.iconst 0) 1 38 := ⟨by decide +kernel, rfl⟩
theorem d_X10_done_38 : q_dec prog_12_method_29_code 38 (.putfield 80) 3 41 := ⟨by decide +kernel, rfl⟩
theorem d_X10_done_41 : q_dec prog_12_method_29_code 41 (.aload_n 0) 1 42 := ⟨by decide +kernel, rfl⟩
theorem d_X10_done_42 : q_dec prog_12_method_29_code 42 (.getfield 120) 3 45 := ⟨by decide +kernel, rfl⟩
theorem d_X10_done_45 : q_dec prog_12_method_29_code 45 (.ireturn) 1 46 := ⟨by decide +kernel, rfl⟩
theorem m_X10_done : q_wV y_X10_done prog_12_method_29_code 2 (some .int) 0 := ⟨q_mem 855 (by decide +kernel) (by decide +kernel), q_mem 853 (by decide +kernel) (by decide +kernel), q_mem 854 (by decide +kernel) (by decide +kernel), q_mem 11 (by decide +kernel) (by decide +kernel), by decide +kernel⟩
theorem d_X10_behind_0 : q_dec prog_12_method_30_code 0 (.aload_n 0) 1 1 := ⟨by decide +kernel, rfl⟩
theorem d_X10_behind_1 : q_dec prog_12_method_30_code 1 (.iload_n 1) 1 2 := ⟨by decide +kernel, rfl⟩
theorem d_X10_behind_2 : q_dec prog_12_method_30_code 2 (.invokevirtual 77) 3 5 := ⟨by decide +kernel, rfl⟩
theorem d_X10_behind_5 : q_dec prog_12_method_30_code 5 (.ifCond .ne 5) 3 8 := ⟨by decide +kernel, rfl⟩
theorem d_X10_behind_8 : q_dec prog_12_method_30_code 8 (.iconst (-1)) 1 9 := ⟨by decide +kernel, rfl⟩
theorem d_X10_behind_9 : q_dec prog_12_method_30_code 9 (.ireturn) 1 10 := ⟨by decide +kernel, rfl⟩
theorem d_X10_behind_10 : q_dec prog_12_method_30_code 10 (.iload_n 2) 1 11 := ⟨by decide +kernel, rfl⟩
theorem d_X10_behind_11 : q_dec prog_12_method_30_code 11 (.iconst 0) 1 12 := ⟨by decide +kernel, rfl⟩
theorem d_X10_behind_12 : q_dec prog_12_method_30_code 12 (.iconst 2) 1 13 := ⟨by decide +kernel, rfl⟩
theorem d_X10_behind_13 : q_dec prog_12_method_30_code 13 (.invokestatic 55) 3 16 := ⟨by decide +kernel, rfl⟩
theorem d_X10_behind_16 : q_dec prog_12_method_30_code 16 (.ifCond .ne 6) 3 19 := ⟨by decide +kernel, rfl⟩
theorem d_X10_behind_19 : q_dec prog_12_method_30_code 19 (.bipush (-2)) 2 21 := ⟨by decide +kernel, rfl⟩
theorem d_X10_behind_21 : q_dec prog_12_method_30_code 21 (.ireturn) 1 22 := ⟨by decide +kernel, rfl⟩
theorem d_X10_behind_22 : q_dec prog_12_method_30_code 22 (.aload_n 0) 1 23 := ⟨by decide +kernel, rfl⟩
theorem d_X10_behind_23 : q_dec prog_12_method_30_code 23 (.invokevirtual 138) 3 26 := ⟨by decide +kernel, rfl⟩
theorem d_X10_behind_26 : q_dec prog_12_method_30_code 26 (.ifCond .ge 6) 3 29 := ⟨by decide +kernel, rfl⟩
theorem d_X10_behind_29 : q_dec prog_12_method_30_code 29 (.bipush (-5)) 2 31 := ⟨by decide +kernel, rfl⟩
theorem d_X10_behind_31 : q_dec prog_12_method_30_code 31 (.ireturn) 1 32 := ⟨by decide +kernel, rfl⟩
theorem d_X10_behind_32 : q_dec prog_12_method_30_code 32 (.iload_n 2) 1 33 := ⟨by decide +kernel, rfl⟩
theorem d_X10_behind_33 : q_dec prog_12_method_30_code 33 (.ifCond .ne 15) 3 36 := ⟨by decide +kernel, rfl⟩
theorem d_X10_behind_36 : q_dec prog_12_method_30_code 36 (.aload_n 0) 1 37 := ⟨by decide +kernel, rfl⟩
theorem d_X10_behind_37 : q_dec prog_12_method_30_code 37 (.getfield 13) 3 40 := ⟨by decide +kernel, rfl⟩
theorem d_X10_behind_40 : q_dec prog_12_method_30_code 40 (.bipush 6) 2 42 := ⟨by decide +kernel, rfl⟩
theorem d_X10_behind_42 : q_dec prog_12_method_30_code 42 (.iload_n 1) 1 43 := ⟨by decide +kernel, rfl⟩
theorem d_X10_behind_43 : q_dec prog_12_method_30_code 43 (.imul) 1 44 := ⟨by decide +kernel, rfl⟩
theorem d_X10_behind_44 : q_dec prog_12_method_30_code 44 (.iaload) 1 45 := ⟨by decide +kernel, rfl⟩
theorem d_X10_behind_45 : q_dec prog_12_method_30_code 45 (.goto 29) 3 48 := ⟨by decide +kernel, rfl⟩
theorem d_X10_behind_48 : q_dec prog_12_method_30_code 48 (.iload_n 2) 1 49 := ⟨by decide +kernel, rfl⟩
theorem d_X10_behind_49 : q_dec prog_12_method_30_code 49 (.iconst 1) 1 50 := ⟨by decide +kernel, rfl⟩
theorem d_X10_behind_50 : q_dec prog_12_method_30_code 50 (.if_icmp .ne 11) 3 53 := ⟨by decide +kernel, rfl⟩
theorem d_X10_behind_53 : q_dec prog_12_method_30_code 53 (.aload_n 0) 1 54 := ⟨by decide +kernel, rfl⟩
theorem d_X10_behind_54 : q_dec prog_12_method_30_code 54 (.iload_n 1) 1 55 := ⟨by decide +kernel, rfl⟩
theorem d_X10_behind_55 : q_dec prog_12_method_30_code 55 (.invokevirtual 96) 3 58 := ⟨by decide +kernel, rfl⟩
theorem d_X10_behind_58 : q_dec prog_12_method_30_code 58 (.goto 16) 3 61 := ⟨by decide +kernel, rfl⟩
theorem d_X10_behind_61 : q_dec prog_12_method_30_code 61 (.aload_n 0) 1 62 := ⟨by decide +kernel, rfl⟩
theorem d_X10_behind_62 : q_dec prog_12_method_30_code 62 (.iload_n 1) 1 63 := ⟨by decide +kernel, rfl⟩
theorem d_X10_behind_63 : q_dec prog_12_method_30_code 63 (.invokevirtual 93) 3 66 := ⟨by decide +kernel, rfl⟩
theorem d_X10_behind_66 : q_dec prog_12_method_30_code 66 (.ifCond .eq 7) 3 69 := ⟨by decide +kernel, rfl⟩
theorem d_X10_behind_69 : q_dec prog_12_method_30_code 69 (.iconst 1) 1 70 := ⟨by decide +kernel, rfl⟩
theorem d_X10_behind_70 : q_dec prog_12_method_30_code 70 (.goto 4) 3 73 := ⟨by decide +kernel, rfl⟩
theorem d_X10_behind_73 : q_dec prog_12_method_30_code 73 (.iconst 0) 1 74 := ⟨by decide +kernel, rfl⟩
theorem d_X10_behind_74 : q_dec prog_12_method_30_code 74 (.ireturn) 1 75 := ⟨by decide +kernel, rfl⟩
theorem m_X10_behind : q_wV y_X10_behind prog_12_method_30_code 3 (some .int) 2 := ⟨q_mem 863 (by decide +kernel) (by decide +kernel), q_mem 861 (by decide +kernel) (by decide +kernel), q_mem 862 (by decide +kernel) (by decide +kernel), q_mem 11 (by decide +kernel) (by decide +kernel), by decide +kernel⟩
theorem d_X10_partedNow_0 : q_dec prog_12_method_31_code 0 (.iconst 0) 1 1 := ⟨by decide +kernel, rfl⟩
theorem d_X10_partedNow_1 : q_dec prog_12_method_31_code 1 (.istore_n 1) 1 2 := ⟨by decide +kernel, rfl⟩
theorem d_X10_partedNow_2 : q_dec prog_12_method_31_code 2 (.iconst 0) 1 3 := ⟨by decide +kernel, rfl⟩
theorem d_X10_partedNow_3 : q_dec prog_12_method_31_code 3 (.istore_n 2) 1 4 := ⟨by decide +kernel, rfl⟩
theorem d_X10_partedNow_4 : q_dec prog_12_method_31_code 4 (.iload_n 2) 1 5 := ⟨by decide +kernel, rfl⟩
theorem d_X10_partedNow_5 : q_dec prog_12_method_31_code 5 (.bipush 6) 2 7 := ⟨by decide +kernel, rfl⟩
theorem d_X10_partedNow_7 : q_dec prog_12_method_31_code 7 (.if_icmp .ge 33) 3 10 := ⟨by decide +kernel, rfl⟩
theorem d_X10_partedNow_10 : q_dec prog_12_method_31_code 10 (.iload_n 1) 1 11 := ⟨by decide +kernel, rfl⟩
theorem d_X10_partedNow_11 : q_dec prog_12_method_31_code 11 (.aload_n 0) 1 12 := ⟨by decide +kernel, rfl⟩
theorem d_X10_partedNow_12 : q_dec prog_12_method_31_code 12 (.iload_n 2) 1 13 := ⟨by decide +kernel, rfl⟩
theorem d_X10_partedNow_13 : q_dec prog_12_method_31_code 13 (.invokevirtual 77) 3 16 := ⟨by decide +kernel, rfl⟩
theorem d_X10_partedNow_16 : q_dec prog_12_method_31_code 16 (.ifCond .eq 15) 3 19 := ⟨by decide +kernel, rfl⟩
theorem d_X10_partedNow_19 : q_dec prog_12_method_31_code 19 (.aload_n 0) 1 20 := ⟨by decide +kernel, rfl⟩
theorem d_X10_partedNow_20 : q_dec prog_12_method_31_code 20 (.iload_n 2) 1 21 := ⟨by decide +kernel, rfl⟩
theorem d_X10_partedNow_21 : q_dec prog_12_method_31_code 21 (.invokevirtual 93) 3 24 := ⟨by decide +kernel, rfl⟩
theorem d_X10_partedNow_24 : q_dec prog_12_method_31_code 24 (.ifCond .eq 7) 3 27 := ⟨by decide +kernel, rfl⟩
theorem d_X10_partedNow_27 : q_dec prog_12_method_31_code 27 (.iconst 1) 1 28 := ⟨by decide +kernel, rfl⟩
theorem d_X10_partedNow_28 : q_dec prog_12_method_31_code 28 (.goto 4) 3 31 := ⟨by decide +kernel, rfl⟩
theorem d_X10_partedNow_31 : q_dec prog_12_method_31_code 31 (.iconst 0) 1 32 := ⟨by decide +kernel, rfl⟩
theorem d_X10_partedNow_32 : q_dec prog_12_method_31_code 32 (.iadd) 1 33 := ⟨by decide +kernel, rfl⟩
theorem d_X10_partedNow_33 : q_dec prog_12_method_31_code 33 (.istore_n 1) 1 34 := ⟨by decide +kernel, rfl⟩
theorem d_X10_partedNow_34 : q_dec prog_12_method_31_code 34 (.iinc 2 1) 3 37 := ⟨by decide +kernel, rfl⟩
theorem d_X10_partedNow_37 : q_dec prog_12_method_31_code 37 (.goto (-33)) 3 40 := ⟨by decide +kernel, rfl⟩
theorem d_X10_partedNow_40 : q_dec prog_12_method_31_code 40 (.iload_n 1) 1 41 := ⟨by decide +kernel, rfl⟩
theorem d_X10_partedNow_41 : q_dec prog_12_method_31_code 41 (.ireturn) 1 42 := ⟨by decide +kernel, rfl⟩
theorem m_X10_partedNow : q_wV y_X10_partedNow prog_12_method_31_code 3 (some .int) 0 := ⟨q_mem 871 (by decide +kernel) (by decide +kernel), q_mem 870 (by decide +kernel) (by decide +kernel), q_memS (n := 22) 30 (by decide +kernel), q_mem 11 (by decide +kernel) (by decide +kernel), by decide +kernel⟩
theorem d_X10_then_0 : q_dec prog_12_method_32_code 0 (.iload_n 1) 1 1 := ⟨by decide +kernel, rfl⟩
theorem d_X10_then_1 : q_dec prog_12_method_32_code 1 (.iconst 0) 1 2 := ⟨by decide +kernel, rfl⟩
theorem d_X10_then_2 : q_dec prog_12_method_32_code 2 (.iconst 4) 1 3 := ⟨by decide +kernel, rfl⟩
theorem d_X10_then_3 : q_dec prog_12_method_32_code 3 (.invokestatic 55) 3 6 := ⟨by decide +kernel, rfl⟩
theorem d_X10_then_6 : q_dec prog_12_method_32_code 6 (.ifCond .ne 6) 3 9 := ⟨by decide +kernel, rfl⟩
theorem d_X10_then_9 : q_dec prog_12_method_32_code 9 (.bipush (-2)) 2 11 := ⟨by decide +kernel, rfl⟩
theorem d_X10_then_11 : q_dec prog_12_method_32_code 11 (.ireturn) 1 12 := ⟨by decide +kernel, rfl⟩
theorem d_X10_then_12 : q_dec prog_12_method_32_code 12 (.aload_n 0) 1 13 := ⟨by decide +kernel, rfl⟩
theorem d_X10_then_13 : q_dec prog_12_method_32_code 13 (.invokevirtual 138) 3 16 := ⟨by decide +kernel, rfl⟩
theorem d_X10_then_16 : q_dec prog_12_method_32_code 16 (.ifCond .ge 6) 3 19 := ⟨by decide +kernel, rfl⟩
theorem d_X10_then_19 : q_dec prog_12_method_32_code 19 (.bipush (-5)) 2 21 := ⟨by decide +kernel, rfl⟩
theorem d_X10_then_21 : q_dec prog_12_method_32_code 21 (.ireturn) 1 22 := ⟨by decide +kernel, rfl⟩
theorem d_X10_then_22 : q_dec prog_12_method_32_code 22 (.iload_n 1) 1 23 := ⟨by decide +kernel, rfl⟩
theorem d_X10_then_23 : q_dec prog_12_method_32_code 23 (.iconst 2) 1 24 := ⟨by decide +kernel, rfl⟩
theorem d_X10_then_24 : q_dec prog_12_method_32_code 24 (.if_icmp .ge 15) 3 27 := ⟨by decide +kernel, rfl⟩
theorem d_X10_then_27 : q_dec prog_12_method_32_code 27 (.aload_n 0) 1 28 := ⟨by decide +kernel, rfl⟩
theorem d_X10_then_28 : q_dec prog_12_method_32_code 28 (.getfield 13) 3 31 := ⟨by decide +kernel, rfl⟩
theorem d_X10_then_31 : q_dec prog_12_method_32_code 31 (.bipush 48) 2 33 := ⟨by decide +kernel, rfl⟩
theorem d_X10_then_33 : q_dec prog_12_method_32_code 33 (.iload_n 1) 1 34 := ⟨by decide +kernel, rfl⟩
theorem d_X10_then_34 : q_dec prog_12_method_32_code 34 (.iadd) 1 35 := ⟨by decide +kernel, rfl⟩
theorem d_X10_then_35 : q_dec prog_12_method_32_code 35 (.iaload) 1 36 := ⟨by decide +kernel, rfl⟩
theorem d_X10_then_36 : q_dec prog_12_method_32_code 36 (.goto 31) 3 39 := ⟨by decide +kernel, rfl⟩
theorem d_X10_then_39 : q_dec prog_12_method_32_code 39 (.iload_n 1) 1 40 := ⟨by decide +kernel, rfl⟩
theorem d_X10_then_40 : q_dec prog_12_method_32_code 40 (.iconst 2) 1 41 := ⟨by decide +kernel, rfl⟩
theorem d_X10_then_41 : q_dec prog_12_method_32_code 41 (.if_icmp .ne 10) 3 44 := ⟨by decide +kernel, rfl⟩
theorem d_X10_then_44 : q_dec prog_12_method_32_code 44 (.aload_n 0) 1 45 := ⟨by decide +kernel, rfl⟩
theorem d_X10_then_45 : q_dec prog_12_method_32_code 45 (.invokevirtual 141) 3 48 := ⟨by decide +kernel, rfl⟩
theorem d_X10_then_48 : q_dec prog_12_method_32_code 48 (.goto 19) 3 51 := ⟨by decide +kernel, rfl⟩
theorem d_X10_then_51 : q_dec prog_12_method_32_code 51 (.iload_n 1) 1 52 := ⟨by decide +kernel, rfl⟩
theorem d_X10_then_52 : q_dec prog_12_method_32_code 52 (.iconst 3) 1 53 := ⟨by decide +kernel, rfl⟩
theorem d_X10_then_53 : q_dec prog_12_method_32_code 53 (.if_icmp .ne 10) 3 56 := ⟨by decide +kernel, rfl⟩
theorem d_X10_then_56 : q_dec prog_12_method_32_code 56 (.aload_n 0) 1 57 := ⟨by decide +kernel, rfl⟩
theorem d_X10_then_57 : q_dec prog_12_method_32_code 57 (.getfield 87) 3 60 := ⟨by decide +kernel, rfl⟩
theorem d_X10_then_60 : q_dec prog_12_method_32_code 60 (.goto 7) 3 63 := ⟨by decide +kernel, rfl⟩
theorem d_X10_then_63 : q_dec prog_12_method_32_code 63 (.aload_n 0) 1 64 := ⟨by decide +kernel, rfl⟩
theorem d_X10_then_64 : q_dec prog_12_method_32_code 64 (.getfield 90) 3 67 := ⟨by decide +kernel, rfl⟩
theorem d_X10_then_67 : q_dec prog_12_method_32_code 67 (.ireturn) 1 68 := ⟨by decide +kernel, rfl⟩
theorem m_X10_then : q_wV y_X10_then prog_12_method_32_code 2 (some .int) 1 := ⟨q_mem 867 (by decide +kernel) (by decide +kernel), q_mem 865 (by decide +kernel) (by decide +kernel), q_mem 866 (by decide +kernel) (by decide +kernel), q_mem 11 (by decide +kernel) (by decide +kernel), by decide +kernel⟩
theorem d_X10_standing_0 : q_dec prog_12_method_33_code 0 (.iload_n 1) 1 1 := ⟨by decide +kernel, rfl⟩
theorem d_X10_standing_1 : q_dec prog_12_method_33_code 1 (.invokestatic 66) 3 4 := ⟨by decide +kernel, rfl⟩
theorem d_X10_standing_4 : q_dec prog_12_method_33_code 4 (.ifCond .ne 5) 3 7 := ⟨by decide +kernel, rfl⟩
theorem d_X10_standing_7 : q_dec prog_12_method_33_code 7 (.iconst (-1)) 1 8 := ⟨by decide +kernel, rfl⟩
theorem d_X10_standing_8 : q_dec prog_12_method_33_code 8 (.ireturn) 1 9 := ⟨by decide +kernel, rfl⟩
theorem d_X10_standing_9 : q_dec prog_12_method_33_code 9 (.iload_n 2) 1 10 := ⟨by decide +kernel, rfl⟩
theorem d_X10_standing_10 : q_dec prog_12_method_33_code 10 (.iconst 0) 1 11 := ⟨by decide +kernel, rfl⟩
theorem d_X10_standing_11 : q_dec prog_12_method_33_code 11 (.iconst 1) 1 12 := ⟨by decide +kernel, rfl⟩
theorem d_X10_standing_12 : q_dec prog_12_method_33_code 12 (.invokestatic 55) 3 15 := ⟨by decide +kernel, rfl⟩
theorem d_X10_standing_15 : q_dec prog_12_method_33_code 15 (.ifCond .ne 6) 3 18 := ⟨by decide +kernel, rfl⟩
theorem d_X10_standing_18 : q_dec prog_12_method_33_code 18 (.bipush (-2)) 2 20 := ⟨by decide +kernel, rfl⟩
theorem d_X10_standing_20 : q_dec prog_12_method_33_code 20 (.ireturn) 1 21 := ⟨by decide +kernel, rfl⟩
theorem d_X10_standing_21 : q_dec prog_12_method_33_code 21 (.aload_n 0) 1 22 := ⟨by decide +kernel, rfl⟩
theorem d_X10_standing_22 : q_dec prog_12_method_33_code 22 (.invokevirtual 117) 3 25 := ⟨by decide +kernel, rfl⟩
theorem d_X10_standing_25 : q_dec prog_12_method_33_code 25 (.iconst 0) 1 26 := ⟨by decide +kernel, rfl⟩
theorem d_X10_standing_26 : q_dec prog_12_method_33_code 26 (.istore_n 3) 1 27 := ⟨by decide +kernel, rfl⟩
theorem d_X10_standing_27 : q_dec prog_12_method_33_code 27 (.iconst 0) 1 28 := ⟨by decide +kernel, rfl⟩
theorem d_X10_standing_28 : q_dec prog_12_method_33_code 28 (.istore 4) 2 30 := ⟨by decide +kernel, rfl⟩
theorem d_X10_standing_30 : q_dec prog_12_method_33_code 30 (.iload 4) 2 32 := ⟨by decide +kernel, rfl⟩
theorem d_X10_standing_32 : q_dec prog_12_method_33_code 32 (.bipush 6) 2 34 := ⟨by decide +kernel, rfl⟩
theorem d_X10_standing_34 : q_dec prog_12_method_33_code 34 (.if_icmp .ge 68) 3 37 := ⟨by decide +kernel, rfl⟩
theorem d_X10_standing_37 : q_dec prog_12_method_33_code 37 (.aload_n 0) 1 38 := ⟨by decide +kernel, rfl⟩
theorem d_X10_standing_38 : q_dec prog_12_method_33_code 38 (.iload 4) 2 40 := ⟨by decide +kernel, rfl⟩
theorem d_X10_standing_40 : q_dec prog_12_method_33_code 40 (.invokevirtual 77) 3 43 := ⟨by decide +kernel, rfl⟩
theorem d_X10_standing_43 : q_dec prog_12_method_33_code 43 (.ifCond .eq 34) 3 46 := ⟨by decide +kernel, rfl⟩
theorem d_X10_standing_46 : q_dec prog_12_method_33_code 46 (.iload_n 2) 1 47 := ⟨by decide +kernel, rfl⟩
theorem d_X10_standing_47 : q_dec prog_12_method_33_code 47 (.ifCond .ne 16) 3 50 := ⟨by decide +kernel, rfl⟩
theorem d_X10_standing_50 : q_dec prog_12_method_33_code 50 (.aload_n 0) 1 51 := ⟨by decide +kernel, rfl⟩
theorem d_X10_standing_51 : q_dec prog_12_method_33_code 51 (.getfield 13) 3 54 := ⟨by decide +kernel, rfl⟩
theorem d_X10_standing_54 : q_dec prog_12_method_33_code 54 (.bipush 6) 2 56 := ⟨by decide +kernel, rfl⟩
theorem d_X10_standing_56 : q_dec prog_12_method_33_code 56 (.iload 4) 2 58 := ⟨by decide +kernel, rfl⟩
theorem d_X10_standing_58 : q_dec prog_12_method_33_code 58 (.imul) 1 59 := ⟨by decide +kernel, rfl⟩
theorem d_X10_standing_59 : q_dec prog_12_method_33_code 59 (.iaload) 1 60 := ⟨by decide +kernel, rfl⟩
theorem d_X10_standing_60 : q_dec prog_12_method_33_code 60 (.goto 9) 3 63 := ⟨by decide +kernel, rfl⟩
theorem d_X10_standing_63 : q_dec prog_12_method_33_code 63 (.aload_n 0) 1 64 := ⟨by decide +kernel, rfl⟩
theorem d_X10_standing_64 : q_dec prog_12_method_33_code 64 (.iload 4) 2 66 := ⟨by decide +kernel, rfl⟩
theorem d_X10_standing_66 : q_dec prog_12_method_33_code 66 (.invokevirtual 96) 3 69 := ⟨by decide +kernel, rfl⟩
theorem d_X10_standing_69 : q_dec prog_12_method_33_code 69 (.iload_n 1) 1 70 := ⟨by decide +kernel, rfl⟩
theorem d_X10_standing_70 : q_dec prog_12_method_33_code 70 (.if_icmp .ne 7) 3 73 := ⟨by decide +kernel, rfl⟩
theorem d_X10_standing_73 : q_dec prog_12_method_33_code 73 (.iconst 1) 1 74 := ⟨by decide +kernel, rfl⟩
theorem d_X10_standing_74 : q_dec prog_12_method_33_code 74 (.goto 4) 3 77 := ⟨by decide +kernel, rfl⟩
theorem d_X10_standing_77 : q_dec prog_12_method_33_code 77 (.iconst 0) 1 78 := ⟨by decide +kernel, rfl⟩
theorem d_X10_standing_78 : q_dec prog_12_method_33_code 78 (.istore 5) 2 80 := ⟨by decide +kernel, rfl⟩
theorem d_X10_standing_80 : q_dec prog_12_method_33_code 80 (.iload_n 3) 1 81 := ⟨by decide +kernel, rfl⟩
theorem d_X10_standing_81 : q_dec prog_12_method_33_code 81 (.iload 5) 2 83 := ⟨by decide +kernel, rfl⟩
theorem d_X10_standing_83 : q_dec prog_12_method_33_code 83 (.ifCond .eq 10) 3 86 := ⟨by decide +kernel, rfl⟩
theorem d_X10_standing_86 : q_dec prog_12_method_33_code 86 (.iconst 1) 1 87 := ⟨by decide +kernel, rfl⟩
theorem d_X10_standing_87 : q_dec prog_12_method_33_code 87 (.iload 4) 2 89 := ⟨by decide +kernel, rfl⟩
theorem d_X10_standing_89 : q_dec prog_12_method_33_code 89 (.ishl) 1 90 := ⟨by decide +kernel, rfl⟩
theorem d_X10_standing_90 : q_dec prog_12_method_33_code 90 (.goto 4) 3 93 := ⟨by decide +kernel, rfl⟩
theorem d_X10_standing_93 : q_dec prog_12_method_33_code 93 (.iconst 0) 1 94 := ⟨by decide +kernel, rfl⟩
theorem d_X10_standing_94 : q_dec prog_12_method_33_code 94 (.ior) 1 95 := ⟨by decide +kernel, rfl⟩
theorem d_X10_standing_95 : q_dec prog_12_method_33_code 95 (.istore_n 3) 1 96 := ⟨by decide +kernel, rfl⟩
theorem d_X10_standing_96 : q_dec prog_12_method_33_code 96 (.iinc 4 1) 3 99 := ⟨by decide +kernel, rfl⟩
theorem d_X10_standing_99 : q_dec prog_12_method_33_code 99 (.goto (-69)) 3 102 := ⟨by decide +kernel, rfl⟩
theorem d_X10_standing_102 : q_dec prog_12_method_33_code 102 (.iload_n 3) 1 103 := ⟨by decide +kernel, rfl⟩
theorem d_X10_standing_103 : q_dec prog_12_method_33_code 103 (.ireturn) 1 104 := ⟨by decide +kernel, rfl⟩
theorem m_X10_standing : q_wV y_X10_standing prog_12_method_33_code 6 (some .int) 2 := ⟨q_mem 875 (by decide +kernel) (by decide +kernel), q_mem 873 (by decide +kernel) (by decide +kernel), q_mem 874 (by decide +kernel) (by decide +kernel), q_mem 11 (by decide +kernel) (by decide +kernel), by decide +kernel⟩
def f_X10_in (a0 : Int32) (a1 : Int32) (a2 : Int32) : Int32 :=
  if a0 < a1 then (0)
  else (if a2 < a0 then (0)
    else (1))
theorem rb_X10_in (a0 : Int32) (a1 : Int32) (a2 : Int32) : f_X10_in a0 a1 a2 = 0 ∨ f_X10_in a0 a1 a2 = 1 := by
  unfold f_X10_in
  repeat' split
  all_goals simp
set_option maxRecDepth 20000 in
theorem t_X10_in {Z : q_Z} {l : Launch} (a0 : Int32) (a1 : Int32) (a2 : Int32)  (σ : q_S) {r : Int32} (h : f_X10_in a0 a1 a2 = r) : q_M Z l y_X10_in prog_12_method_2_code 3 (some .boolean) 1 [.int a0, .int a1, .int a2] σ (some (.int r)) σ := by
  refine q_met (by decide +kernel) (Nat.le_of_ble_eq_true rfl) (fun Γ hΓ B En => ?_)
  unfold f_X10_in at h
  refine g_cut (lv' := [(0, .int a0), (1, .int a1), (2, .int a2)]) rfl ?_
  refine g_iload_n B d_X10_in_0 rfl rfl ?_
  refine g_iload_n B d_X10_in_1 rfl rfl ?_
  refine g_icmp_lt (tgt := 14) B d_X10_in_2 (by decide) h (fun h => ?_) (fun h => ?_)
  · refine g_iconst (v := 0) B d_X10_in_14 (by decide) ?_
    subst h
    exact g_zret B En d_X10_in_15 (by decide)
  · refine g_iload_n B d_X10_in_5 rfl rfl ?_
    refine g_iload_n B d_X10_in_6 rfl rfl ?_
    refine g_icmp_gt (tgt := 14) B d_X10_in_7 (by decide) h (fun h => ?_) (fun h => ?_)
    · refine g_iconst (v := 0) B d_X10_in_14 (by decide) ?_
      subst h
      exact g_zret B En d_X10_in_15 (by decide)
    · refine g_iconst (v := 1) B d_X10_in_10 (by decide) ?_
      refine g_goto (tgt := 15) B d_X10_in_11 (by decide) ?_
      subst h
      exact g_zret B En d_X10_in_15 (by decide)

def f_X10_has (a0 : Int32) (a1 : Int32) : Int32 :=
  if ((a0 >>> (a1 &&& 31)) &&& 1) = 1 then (1)
  else (0)
theorem rb_X10_has (a0 : Int32) (a1 : Int32) : f_X10_has a0 a1 = 0 ∨ f_X10_has a0 a1 = 1 := by
  unfold f_X10_has
  repeat' split
  all_goals simp
set_option maxRecDepth 20000 in
theorem t_X10_has {Z : q_Z} {l : Launch} (a0 : Int32) (a1 : Int32)  (σ : q_S) {r : Int32} (h : f_X10_has a0 a1 = r) : q_M Z l y_X10_has prog_12_method_3_code 2 (some .boolean) 1 [.int a0, .int a1] σ (some (.int r)) σ := by
  refine q_met (by decide +kernel) (Nat.le_of_ble_eq_true rfl) (fun Γ hΓ B En => ?_)
  unfold f_X10_has at h
  refine g_cut (lv' := [(0, .int a0), (1, .int a1)]) rfl ?_
  refine g_iload_n B d_X10_has_0 rfl rfl ?_
  refine g_iload_n B d_X10_has_1 rfl rfl ?_
  refine g_ishr B d_X10_has_2 ?_
  refine g_iconst (v := 1) B d_X10_has_3 (by decide) ?_
  refine g_iand B d_X10_has_4 ?_
  refine g_iconst (v := 1) B d_X10_has_5 (by decide) ?_
  refine g_icmp_ne (tgt := 13) B d_X10_has_6 (by decide) h (fun h => ?_) (fun h => ?_)
  · refine g_iconst (v := 0) B d_X10_has_13 (by decide) ?_
    subst h
    exact g_zret B En d_X10_has_14 (by decide)
  · refine g_iconst (v := 1) B d_X10_has_9 (by decide) ?_
    refine g_goto (tgt := 14) B d_X10_has_10 (by decide) ?_
    subst h
    exact g_zret B En d_X10_has_14 (by decide)

def f_X10_bits_4 (N : Nat)  (x0 : Int32)  : Nat → Int32 → Int32 → Option Int32
  | 0, _, _ => none
  | n + 1, x1, x2 =>
    if (6 : Int32) ≤ x2 then (some x1)
    else (f_X10_bits_4 N x0 n (x1 + ((x0 >>> (x2 &&& 31)) &&& 1)) (x2 + 1))
def f_X10_bits (N : Nat) (a0 : Int32) : Option Int32 :=
  f_X10_bits_4 N a0 N 0 0
set_option maxRecDepth 20000 in
theorem t_X10_bits_4 {Z : q_Z} {Γ : q_C} {σ : q_S} {r : Int32} (B : q_B Z Γ prog_12_method_4_code "WaterOthersModel" 3 1) (En : q_E Z Γ (some .int) (some (.int r)) σ) (N : Nat)  (x0 : Int32)   : ∀ (n : Nat) (x1 : Int32) (x2 : Int32), f_X10_bits_4 N x0 n x1 x2 = some r → q_G Z Γ 3 σ 4 [(0, .int x0), (1, .int x1), (2, .int x2)] [] := by
  intro n
  induction n with
  | zero =>
    intro x1 x2 h
    cases h
  | succ n ih =>
    intro x1 x2 h
    unfold f_X10_bits_4 at h
    refine g_iload_n B d_X10_bits_4 rfl rfl ?_
    refine g_bipush (v := 6) B d_X10_bits_5 (by decide) ?_
    refine g_icmp_ge (tgt := 24) B d_X10_bits_7 (by decide) h (fun h => ?_) (fun h => ?_)
    · refine g_iload_n B d_X10_bits_24 rfl rfl ?_
      obtain rfl := q_po h
      exact g_iret B En d_X10_bits_25
    · refine g_iload_n B d_X10_bits_10 rfl rfl ?_
      refine g_iload_n B d_X10_bits_11 rfl rfl ?_
      refine g_iload_n B d_X10_bits_12 rfl rfl ?_
      refine g_ishr B d_X10_bits_13 ?_
      refine g_iconst (v := 1) B d_X10_bits_14 (by decide) ?_
      refine g_iand B d_X10_bits_15 ?_
      refine g_iadd B d_X10_bits_16 ?_
      refine g_istore_n B d_X10_bits_17 rfl (by decide) ?_
      refine g_iinc (v := (x2 + 1)) B d_X10_bits_18 rfl rfl (by decide) ?_
      refine g_goto (tgt := 4) B d_X10_bits_21 (by decide) ?_
      exact g_cut rfl (ih (x1 + ((x0 >>> (x2 &&& 31)) &&& 1)) (x2 + 1) h)
set_option maxRecDepth 20000 in
theorem t_X10_bits {Z : q_Z} {l : Launch} (N : Nat) (a0 : Int32)  (σ : q_S) {r : Int32} (h : f_X10_bits N a0 = some r) : q_M Z l y_X10_bits prog_12_method_4_code 3 (some .int) 1 [.int a0] σ (some (.int r)) σ := by
  refine q_met (by decide +kernel) (Nat.le_of_ble_eq_true rfl) (fun Γ hΓ B En => ?_)
  unfold f_X10_bits at h
  refine g_cut (lv' := [(0, .int a0)]) rfl ?_
  refine g_iconst (v := 0) B d_X10_bits_0 (by decide) ?_
  refine g_istore_n B d_X10_bits_1 rfl (by decide) ?_
  refine g_iconst (v := 0) B d_X10_bits_2 (by decide) ?_
  refine g_istore_n B d_X10_bits_3 rfl (by decide) ?_
  exact g_cut rfl (t_X10_bits_4 B En N a0 N 0 0 h)

theorem w_WaterOthersModel_55 : Cond.methodLink "WaterOthersModel" 55 y_X10_in ∈ q_tbl := q_mem 759 (by decide +kernel) (by decide +kernel)
def f_X10_isCell (a0 : Int32) : Int32 :=
  (f_X10_in a0 0 19)
theorem rb_X10_isCell (a0 : Int32) : f_X10_isCell a0 = 0 ∨ f_X10_isCell a0 = 1 := by
  unfold f_X10_isCell
  exact (rb_X10_in a0 0 19)
set_option maxRecDepth 20000 in
theorem t_X10_isCell {Z : q_Z} {l : Launch} (a0 : Int32)  (σ : q_S) {r : Int32} (h : f_X10_isCell a0 = r) : q_M Z l y_X10_isCell prog_12_method_5_code 1 (some .boolean) 2 [.int a0] σ (some (.int r)) σ := by
  refine q_met (by decide +kernel) (Nat.le_of_ble_eq_true rfl) (fun Γ hΓ B En => ?_)
  unfold f_X10_isCell at h
  refine g_cut (lv' := [(0, .int a0)]) rfl ?_
  refine g_iload_n B d_X10_isCell_0 rfl rfl ?_
  refine g_iconst (v := 0) B d_X10_isCell_1 (by decide) ?_
  refine g_bipush (v := 19) B d_X10_isCell_2 (by decide) ?_
  refine g_callS (As := [.int a0, .int 0, .int 19]) (rest := []) B d_X10_isCell_4 (t_X10_in a0 0 19 σ rfl) m_X10_in w_WaterOthersModel_55 rfl rfl (Nat.le_of_ble_eq_true rfl) (by omega) (by decide) ?_
  subst h
  exact g_zret B En d_X10_isCell_7 (q_bn (rb_X10_in a0 0 19)).1

theorem w_WaterOthersModel_59 : Cond.fieldLink "WaterOthersModel" 59 "WaterOthersModel" "there" "I" ∈ q_tbl := q_mem 687 (by decide +kernel) (by decide +kernel)
theorem w_WaterOthersModel_62 : Cond.methodLink "WaterOthersModel" 62 y_X10_has ∈ q_tbl := q_mem 781 (by decide +kernel) (by decide +kernel)
def f_X10_isThere (a0 : Int32) (σ : q_S) : Int32 :=
  if (f_X10_in a0 0 5) = 0 then (0)
  else (if (f_X10_has (σ.1 84 2) a0) = 0 then (0)
    else (1))
theorem rb_X10_isThere (a0 : Int32) (σ : q_S) : f_X10_isThere a0 σ = 0 ∨ f_X10_isThere a0 σ = 1 := by
  unfold f_X10_isThere
  repeat' split
  all_goals simp
set_option maxRecDepth 20000 in
theorem t_X10_isThere {Z : q_Z} {l : Launch} (a0 : Int32)  (σ : q_S) {r : Int32} (h : f_X10_isThere a0 σ = r) : q_M Z l y_X10_isThere prog_12_method_6_code 2 (some .boolean) 2 [.ref (Z.1 84), .int a0] σ (some (.int r)) σ := by
  refine q_met (by decide +kernel) (Nat.le_of_ble_eq_true rfl) (fun Γ hΓ B En => ?_)
  unfold f_X10_isThere at h
  refine g_cut (lv' := [(0, .ref (Z.1 84)), (1, .int a0)]) rfl ?_
  refine g_iload_n B d_X10_isThere_0 rfl rfl ?_
  refine g_iconst (v := 0) B d_X10_isThere_1 (by decide) ?_
  refine g_iconst (v := 5) B d_X10_isThere_2 (by decide) ?_
  refine g_callS (As := [.int a0, .int 0, .int 5]) (rest := []) B d_X10_isThere_3 (t_X10_in a0 0 5 σ rfl) m_X10_in w_WaterOthersModel_55 rfl rfl (Nat.le_of_ble_eq_true rfl) (by omega) (by decide) ?_
  refine g_if_eq (tgt := 24) B d_X10_isThere_6 (by decide) h (fun h => ?_) (fun h => ?_)
  · refine g_iconst (v := 0) B d_X10_isThere_24 (by decide) ?_
    subst h
    exact g_zret B En d_X10_isThere_25 (by decide)
  · refine g_aload_n B d_X10_isThere_9 rfl rfl ?_
    refine g_get (ci := 10) (k := 2) B d_X10_isThere_10 q_in10 rfl (by decide) rfl (by decide) w_WaterOthersModel_59 rfl rfl ?_
    refine g_iload_n B d_X10_isThere_13 rfl rfl ?_
    refine g_callS (As := [.int (σ.1 84 2), .int a0]) (rest := []) B d_X10_isThere_14 (t_X10_has (σ.1 84 2) a0 σ rfl) m_X10_has w_WaterOthersModel_62 rfl rfl (Nat.le_of_ble_eq_true rfl) (by omega) (by decide) ?_
    refine g_if_eq (tgt := 24) B d_X10_isThere_17 (by decide) h (fun h => ?_) (fun h => ?_)
    · refine g_iconst (v := 0) B d_X10_isThere_24 (by decide) ?_
      subst h
      exact g_zret B En d_X10_isThere_25 (by decide)
    · refine g_iconst (v := 1) B d_X10_isThere_20 (by decide) ?_
      refine g_goto (tgt := 25) B d_X10_isThere_21 (by decide) ?_
      subst h
      exact g_zret B En d_X10_isThere_25 (by decide)

theorem w_WaterOthersModel_66 : Cond.methodLink "WaterOthersModel" 66 y_X10_isCell ∈ q_tbl := q_mem 756 (by decide +kernel) (by decide +kernel)
theorem w_WaterOthersModel_70 : Cond.fieldLink "WaterOthersModel" 70 "WaterOthersModel" "arches" "I" ∈ q_tbl := q_mem 689 (by decide +kernel) (by decide +kernel)
def f_X10_arch (a0 : Int32) (a1 : Int32) (σ : q_S) : (Int32 × q_S) :=
  if (f_X10_isCell a0) = 0 then (((-1), σ))
  else (if a1 = 0 then ((((q_w (q_w σ 84 4 ((σ.1 84 4) &&& ((1 <<< (a0 &&& 31)) ^^^ (-1)))) 84 4 (((q_w σ 84 4 ((σ.1 84 4) &&& ((1 <<< (a0 &&& 31)) ^^^ (-1)))).1 84 4) ||| 0)).1 84 4), (q_w (q_w σ 84 4 ((σ.1 84 4) &&& ((1 <<< (a0 &&& 31)) ^^^ (-1)))) 84 4 (((q_w σ 84 4 ((σ.1 84 4) &&& ((1 <<< (a0 &&& 31)) ^^^ (-1)))).1 84 4) ||| 0))))
    else ((((q_w (q_w σ 84 4 ((σ.1 84 4) &&& ((1 <<< (a0 &&& 31)) ^^^ (-1)))) 84 4 (((q_w σ 84 4 ((σ.1 84 4) &&& ((1 <<< (a0 &&& 31)) ^^^ (-1)))).1 84 4) ||| (1 <<< (a0 &&& 31)))).1 84 4), (q_w (q_w σ 84 4 ((σ.1 84 4) &&& ((1 <<< (a0 &&& 31)) ^^^ (-1)))) 84 4 (((q_w σ 84 4 ((σ.1 84 4) &&& ((1 <<< (a0 &&& 31)) ^^^ (-1)))).1 84 4) ||| (1 <<< (a0 &&& 31)))))))
set_option maxRecDepth 20000 in
theorem t_X10_arch {Z : q_Z} {l : Launch} (a0 : Int32) (a1 : Int32)  (σ : q_S) {r : Int32} {σ' : q_S} (h : f_X10_arch a0 a1 σ = (r, σ')) : q_M Z l y_X10_arch prog_12_method_7_code 3 (some .int) 3 [.ref (Z.1 84), .int a0, .int a1] σ (some (.int r)) σ' := by
  refine q_met (by decide +kernel) (Nat.le_of_ble_eq_true rfl) (fun Γ hΓ B En => ?_)
  unfold f_X10_arch at h
  refine g_cut (lv' := [(0, .ref (Z.1 84)), (1, .int a0), (2, .int a1)]) rfl ?_
  refine g_iload_n B d_X10_arch_0 rfl rfl ?_
  refine g_callS (As := [.int a0]) (rest := []) B d_X10_arch_1 (t_X10_isCell a0 σ rfl) m_X10_isCell w_WaterOthersModel_66 rfl rfl (Nat.le_of_ble_eq_true rfl) (by omega) (by decide) ?_
  refine g_if_ne (tgt := 9) B d_X10_arch_4 (by decide) h (fun h => ?_) (fun h => ?_)
  · refine g_aload_n B d_X10_arch_9 rfl rfl ?_
    refine g_dup B d_X10_arch_10 rfl ?_
    refine g_get (ci := 10) (k := 4) B d_X10_arch_11 q_in10 rfl (by decide) rfl (by decide) w_WaterOthersModel_70 rfl rfl ?_
    refine g_iconst (v := 1) B d_X10_arch_14 (by decide) ?_
    refine g_iload_n B d_X10_arch_15 rfl rfl ?_
    refine g_ishl B d_X10_arch_16 ?_
    refine g_iconst (v := (-1)) B d_X10_arch_17 (by decide) ?_
    refine g_ixor B d_X10_arch_18 ?_
    refine g_iand B d_X10_arch_19 ?_
    refine g_put (ci := 10) (k := 4) (v := ((σ.1 84 4) &&& ((1 <<< (a0 &&& 31)) ^^^ (-1)))) (ty := .int) B d_X10_arch_20 q_in10 rfl q_yk10 q_nm10 (by decide) (fun _ _ => rfl) (by decide) w_WaterOthersModel_70 rfl rfl rfl rfl rfl (Nat.le_of_ble_eq_true rfl) (fun _ _ => rfl) ?_
    refine g_aload_n B d_X10_arch_23 rfl rfl ?_
    refine g_dup B d_X10_arch_24 rfl ?_
    refine g_get (ci := 10) (k := 4) B d_X10_arch_25 q_in10 rfl (by decide) rfl (by decide) w_WaterOthersModel_70 rfl rfl ?_
    refine g_iload_n B d_X10_arch_28 rfl rfl ?_
    refine g_if_eq (tgt := 38) B d_X10_arch_29 (by decide) h (fun h => ?_) (fun h => ?_)
    · refine g_iconst (v := 0) B d_X10_arch_38 (by decide) ?_
      refine g_ior B d_X10_arch_39 ?_
      refine g_put (ci := 10) (k := 4) (v := (((q_w σ 84 4 ((σ.1 84 4) &&& ((1 <<< (a0 &&& 31)) ^^^ (-1)))).1 84 4) ||| 0)) (ty := .int) B d_X10_arch_40 q_in10 rfl q_yk10 q_nm10 (by decide) (fun _ _ => rfl) (by decide) w_WaterOthersModel_70 rfl rfl rfl rfl rfl (Nat.le_of_ble_eq_true rfl) (fun _ _ => rfl) ?_
      refine g_aload_n B d_X10_arch_43 rfl rfl ?_
      refine g_get (ci := 10) (k := 4) B d_X10_arch_44 q_in10 rfl (by decide) rfl (by decide) w_WaterOthersModel_70 rfl rfl ?_
      obtain ⟨rfl, rfl⟩ := q_pr h
      exact g_iret B En d_X10_arch_47
    · refine g_iconst (v := 1) B d_X10_arch_32 (by decide) ?_
      refine g_iload_n B d_X10_arch_33 rfl rfl ?_
      refine g_ishl B d_X10_arch_34 ?_
      refine g_goto (tgt := 39) B d_X10_arch_35 (by decide) ?_
      refine g_ior B d_X10_arch_39 ?_
      refine g_put (ci := 10) (k := 4) (v := (((q_w σ 84 4 ((σ.1 84 4) &&& ((1 <<< (a0 &&& 31)) ^^^ (-1)))).1 84 4) ||| (1 <<< (a0 &&& 31)))) (ty := .int) B d_X10_arch_40 q_in10 rfl q_yk10 q_nm10 (by decide) (fun _ _ => rfl) (by decide) w_WaterOthersModel_70 rfl rfl rfl rfl rfl (Nat.le_of_ble_eq_true rfl) (fun _ _ => rfl) ?_
      refine g_aload_n B d_X10_arch_43 rfl rfl ?_
      refine g_get (ci := 10) (k := 4) B d_X10_arch_44 q_in10 rfl (by decide) rfl (by decide) w_WaterOthersModel_70 rfl rfl ?_
      obtain ⟨rfl, rfl⟩ := q_pr h
      exact g_iret B En d_X10_arch_47
  · refine g_iconst (v := (-1)) B d_X10_arch_7 (by decide) ?_
    obtain ⟨rfl, rfl⟩ := q_pr h
    exact g_iret B En d_X10_arch_8

theorem w_WaterOthersModel_19 : Cond.fieldLink "WaterOthersModel" 19 "WaterOthersModel" "gap" "I" ∈ q_tbl := q_mem 690 (by decide +kernel) (by decide +kernel)
def f_X10_gap (a0 : Int32) (σ : q_S) : (Int32 × q_S) :=
  if (f_X10_in a0 0 19) = 0 then (((-2), σ))
  else (((σ.1 84 5), (q_w σ 84 5 a0)))
set_option maxRecDepth 20000 in
theorem t_X10_gap {Z : q_Z} {l : Launch} (a0 : Int32)  (σ : q_S) {r : Int32} {σ' : q_S} (h : f_X10_gap a0 σ = (r, σ')) : q_M Z l y_X10_gap prog_12_method_8_code 3 (some .int) 2 [.ref (Z.1 84), .int a0] σ (some (.int r)) σ' := by
  refine q_met (by decide +kernel) (Nat.le_of_ble_eq_true rfl) (fun Γ hΓ B En => ?_)
  unfold f_X10_gap at h
  refine g_cut (lv' := [(0, .ref (Z.1 84)), (1, .int a0)]) rfl ?_
  refine g_iload_n B d_X10_gap_0 rfl rfl ?_
  refine g_iconst (v := 0) B d_X10_gap_1 (by decide) ?_
  refine g_bipush (v := 19) B d_X10_gap_2 (by decide) ?_
  refine g_callS (As := [.int a0, .int 0, .int 19]) (rest := []) B d_X10_gap_4 (t_X10_in a0 0 19 σ rfl) m_X10_in w_WaterOthersModel_55 rfl rfl (Nat.le_of_ble_eq_true rfl) (by omega) (by decide) ?_
  refine g_if_ne (tgt := 13) B d_X10_gap_7 (by decide) h (fun h => ?_) (fun h => ?_)
  · refine g_aload_n B d_X10_gap_13 rfl rfl ?_
    refine g_get (ci := 10) (k := 5) B d_X10_gap_14 q_in10 rfl (by decide) rfl (by decide) w_WaterOthersModel_19 rfl rfl ?_
    refine g_istore_n B d_X10_gap_17 rfl (by decide) ?_
    refine g_aload_n B d_X10_gap_18 rfl rfl ?_
    refine g_iload_n B d_X10_gap_19 rfl rfl ?_
    refine g_put (ci := 10) (k := 5) (v := a0) (ty := .int) B d_X10_gap_20 q_in10 rfl q_yk10 q_nm10 (by decide) (fun _ _ => rfl) (by decide) w_WaterOthersModel_19 rfl rfl rfl rfl rfl (Nat.le_of_ble_eq_true rfl) (fun _ _ => rfl) ?_
    refine g_iload_n B d_X10_gap_23 rfl rfl ?_
    obtain ⟨rfl, rfl⟩ := q_pr h
    exact g_iret B En d_X10_gap_24
  · refine g_bipush (v := (-2)) B d_X10_gap_10 (by decide) ?_
    obtain ⟨rfl, rfl⟩ := q_pr h
    exact g_iret B En d_X10_gap_12

theorem w_WaterOthersModel_16 : Cond.fieldLink "WaterOthersModel" 16 "WaterOthersModel" "late" "[I" ∈ q_tbl := q_mem 688 (by decide +kernel) (by decide +kernel)
theorem w_WaterOthersModel_7 : Cond.fieldLink "WaterOthersModel" 7 "WaterOthersModel" "book" "[I" ∈ q_tbl := q_mem 685 (by decide +kernel) (by decide +kernel)
theorem w_WaterOthersModel_73 : Cond.methodLink "WaterOthersModel" 73 y_X10_bits ∈ q_tbl := q_mem 770 (by decide +kernel) (by decide +kernel)
def f_X10_walker_52 (N : Nat)  (x1 : Int32) (x2 : Int32)  : Nat → Int32 → q_S → Option (Int32 × q_S)
  | 0, _, _ => none
  | n + 1, x4, σ =>
    if (6 : Int32) ≤ x4 then (if ¬ (((36 + x1) : Int32) < 0 ∨ 50 ≤ ((36 + x1) : Int32).toNatClampNeg) then (f_X10_bits N ((q_w σ 85 ((36 + x1) : Int32).toNatClampNeg (-6)).1 84 2)).bind fun z93 =>
      some (z93, (q_w σ 85 ((36 + x1) : Int32).toNatClampNeg (-6))) else none)
    else (if ¬ ((((6 * x1) + x4) : Int32) < 0 ∨ 50 ≤ (((6 * x1) + x4) : Int32).toNatClampNeg) then f_X10_walker_52 N x1 x2 n (x4 + 1) (q_w σ 85 (((6 * x1) + x4) : Int32).toNatClampNeg x2) else none)
def f_X10_walker (N : Nat) (a0 : Int32) (a1 : Int32) (a2 : Int32) (σ : q_S) : Option (Int32 × q_S) :=
  if (f_X10_in a0 0 5) = 0 then (some ((-1), σ))
  else (if (f_X10_isCell a1) = 0 then (some ((-1), σ))
    else (if (f_X10_in a2 0 5) = 0 then (some ((-2), σ))
      else (if ¬ ((a0 : Int32) < 0 ∨ 6 ≤ (a0 : Int32).toNatClampNeg) then f_X10_walker_52 N a0 a1 N 0 (q_w (q_w σ 84 2 ((σ.1 84 2) ||| (1 <<< (a0 &&& 31)))) 87 (a0 : Int32).toNatClampNeg a2) else none)))
set_option maxRecDepth 20000 in
theorem t_X10_walker_52 {Z : q_Z} {Γ : q_C} {r : Int32} {σ' : q_S} (B : q_B Z Γ prog_12_method_9_code "WaterOthersModel" 5 3) (En : q_E Z Γ (some .int) (some (.int r)) σ') (N : Nat)  (x1 : Int32) (x2 : Int32)   : ∀ (n : Nat) (x4 : Int32) (σ : q_S), f_X10_walker_52 N x1 x2 n x4 σ = some (r, σ') → q_G Z Γ 5 σ 52 [(0, .ref (Z.1 84)), (1, .int x1), (2, .int x2), (4, .int x4)] [] := by
  intro n
  induction n with
  | zero =>
    intro x4 σ h
    cases h
  | succ n ih =>
    intro x4 σ h
    unfold f_X10_walker_52 at h
    refine g_iload B d_X10_walker_52 rfl ?_
    refine g_bipush (v := 6) B d_X10_walker_54 (by decide) ?_
    refine g_icmp_ge (tgt := 78) B d_X10_walker_56 (by decide) h (fun h => ?_) (fun h => ?_)
    · refine g_aload_n B d_X10_walker_78 rfl rfl ?_
      refine g_get (ci := 10) (k := 0) (v := .ref (Z.1 85)) B d_X10_walker_79 q_in10 rfl (by decide) rfl (by decide) w_WaterOthersModel_7 rfl rfl ?_
      refine g_bipush (v := 36) B d_X10_walker_82 (by decide) ?_
      refine g_iload_n B d_X10_walker_84 rfl rfl ?_
      refine g_iadd B d_X10_walker_85 ?_
      refine g_bipush (v := (-6)) B d_X10_walker_86 (by decide) ?_
      obtain ⟨h88, h⟩ := q_chk h
      refine g_iast B d_X10_walker_88 (by decide) (fun _ _ => rfl) h88 ?_
      refine g_aload_n B d_X10_walker_89 rfl rfl ?_
      refine g_get (ci := 10) (k := 2) B d_X10_walker_90 q_in10 rfl (by decide) rfl (by decide) w_WaterOthersModel_59 rfl rfl ?_
      obtain ⟨z93, g93, h⟩ := q_bind h
      refine g_callS (As := [.int ((q_w σ 85 ((36 + x1) : Int32).toNatClampNeg (-6)).1 84 2)]) (rest := []) B d_X10_walker_93 (t_X10_bits N ((q_w σ 85 ((36 + x1) : Int32).toNatClampNeg (-6)).1 84 2) (q_w σ 85 ((36 + x1) : Int32).toNatClampNeg (-6)) g93) m_X10_bits w_WaterOthersModel_73 rfl rfl (Nat.le_of_ble_eq_true rfl) (by omega) (by decide) ?_
      obtain ⟨rfl, rfl⟩ := q_ps h
      exact g_iret B En d_X10_walker_96
    · refine g_aload_n B d_X10_walker_59 rfl rfl ?_
      refine g_get (ci := 10) (k := 0) (v := .ref (Z.1 85)) B d_X10_walker_60 q_in10 rfl (by decide) rfl (by decide) w_WaterOthersModel_7 rfl rfl ?_
      refine g_bipush (v := 6) B d_X10_walker_63 (by decide) ?_
      refine g_iload_n B d_X10_walker_65 rfl rfl ?_
      refine g_imul B d_X10_walker_66 ?_
      refine g_iload B d_X10_walker_67 rfl ?_
      refine g_iadd B d_X10_walker_69 ?_
      refine g_iload_n B d_X10_walker_70 rfl rfl ?_
      obtain ⟨h71, h⟩ := q_chk h
      refine g_iast B d_X10_walker_71 (by decide) (fun _ _ => rfl) h71 ?_
      refine g_iinc (v := (x4 + 1)) B d_X10_walker_72 rfl rfl (by decide) ?_
      refine g_goto (tgt := 52) B d_X10_walker_75 (by decide) ?_
      exact g_cut rfl (ih (x4 + 1) (q_w σ 85 (((6 * x1) + x4) : Int32).toNatClampNeg x2) h)
set_option maxRecDepth 20000 in
theorem t_X10_walker {Z : q_Z} {l : Launch} (N : Nat) (a0 : Int32) (a1 : Int32) (a2 : Int32)  (σ : q_S) {r : Int32} {σ' : q_S} (h : f_X10_walker N a0 a1 a2 σ = some (r, σ')) : q_M Z l y_X10_walker prog_12_method_9_code 5 (some .int) 3 [.ref (Z.1 84), .int a0, .int a1, .int a2] σ (some (.int r)) σ' := by
  refine q_met (by decide +kernel) (Nat.le_of_ble_eq_true rfl) (fun Γ hΓ B En => ?_)
  unfold f_X10_walker at h
  refine g_cut (lv' := [(0, .ref (Z.1 84)), (1, .int a0), (2, .int a1), (3, .int a2)]) rfl ?_
  refine g_iload_n B d_X10_walker_0 rfl rfl ?_
  refine g_iconst (v := 0) B d_X10_walker_1 (by decide) ?_
  refine g_iconst (v := 5) B d_X10_walker_2 (by decide) ?_
  refine g_callS (As := [.int a0, .int 0, .int 5]) (rest := []) B d_X10_walker_3 (t_X10_in a0 0 5 σ rfl) m_X10_in w_WaterOthersModel_55 rfl rfl (Nat.le_of_ble_eq_true rfl) (by omega) (by decide) ?_
  refine g_if_eq (tgt := 16) B d_X10_walker_6 (by decide) h (fun h => ?_) (fun h => ?_)
  · refine g_iconst (v := (-1)) B d_X10_walker_16 (by decide) ?_
    obtain ⟨rfl, rfl⟩ := q_ps h
    exact g_iret B En d_X10_walker_17
  · refine g_iload_n B d_X10_walker_9 rfl rfl ?_
    refine g_callS (As := [.int a1]) (rest := []) B d_X10_walker_10 (t_X10_isCell a1 σ rfl) m_X10_isCell w_WaterOthersModel_66 rfl rfl (Nat.le_of_ble_eq_true rfl) (by omega) (by decide) ?_
    refine g_if_ne (tgt := 18) B d_X10_walker_13 (by decide) h (fun h => ?_) (fun h => ?_)
    · refine g_iload_n B d_X10_walker_18 rfl rfl ?_
      refine g_iconst (v := 0) B d_X10_walker_19 (by decide) ?_
      refine g_iconst (v := 5) B d_X10_walker_20 (by decide) ?_
      refine g_callS (As := [.int a2, .int 0, .int 5]) (rest := []) B d_X10_walker_21 (t_X10_in a2 0 5 σ rfl) m_X10_in w_WaterOthersModel_55 rfl rfl (Nat.le_of_ble_eq_true rfl) (by omega) (by decide) ?_
      refine g_if_ne (tgt := 30) B d_X10_walker_24 (by decide) h (fun h => ?_) (fun h => ?_)
      · refine g_aload_n B d_X10_walker_30 rfl rfl ?_
        refine g_dup B d_X10_walker_31 rfl ?_
        refine g_get (ci := 10) (k := 2) B d_X10_walker_32 q_in10 rfl (by decide) rfl (by decide) w_WaterOthersModel_59 rfl rfl ?_
        refine g_iconst (v := 1) B d_X10_walker_35 (by decide) ?_
        refine g_iload_n B d_X10_walker_36 rfl rfl ?_
        refine g_ishl B d_X10_walker_37 ?_
        refine g_ior B d_X10_walker_38 ?_
        refine g_put (ci := 10) (k := 2) (v := ((σ.1 84 2) ||| (1 <<< (a0 &&& 31)))) (ty := .int) B d_X10_walker_39 q_in10 rfl q_yk10 q_nm10 (by decide) (fun _ _ => rfl) (by decide) w_WaterOthersModel_59 rfl rfl rfl rfl rfl (Nat.le_of_ble_eq_true rfl) (fun _ _ => rfl) ?_
        refine g_aload_n B d_X10_walker_42 rfl rfl ?_
        refine g_get (ci := 10) (k := 3) (v := .ref (Z.1 87)) B d_X10_walker_43 q_in10 rfl (by decide) rfl (by decide) w_WaterOthersModel_16 rfl rfl ?_
        refine g_iload_n B d_X10_walker_46 rfl rfl ?_
        refine g_iload_n B d_X10_walker_47 rfl rfl ?_
        obtain ⟨h48, h⟩ := q_chk h
        refine g_iast B d_X10_walker_48 (by decide) (fun _ _ => rfl) h48 ?_
        refine g_iconst (v := 0) B d_X10_walker_49 (by decide) ?_
        refine g_istore B d_X10_walker_50 (by decide) ?_
        exact g_cut rfl (t_X10_walker_52 B En N a0 a1 N 0 (q_w (q_w σ 84 2 ((σ.1 84 2) ||| (1 <<< (a0 &&& 31)))) 87 (a0 : Int32).toNatClampNeg a2) h)
      · refine g_bipush (v := (-2)) B d_X10_walker_27 (by decide) ?_
        obtain ⟨rfl, rfl⟩ := q_ps h
        exact g_iret B En d_X10_walker_29
    · refine g_iconst (v := (-1)) B d_X10_walker_16 (by decide) ?_
      obtain ⟨rfl, rfl⟩ := q_ps h
      exact g_iret B En d_X10_walker_17

theorem w_WaterOthersModel_77 : Cond.methodLink "WaterOthersModel" 77 y_X10_isThere ∈ q_tbl := q_mem 777 (by decide +kernel) (by decide +kernel)
def f_X10_leave (N : Nat) (a0 : Int32) (σ : q_S) : Option (Int32 × q_S) :=
  if (f_X10_isThere a0 σ) = 0 then (some ((-1), σ))
  else ((f_X10_bits N ((q_w σ 84 2 ((σ.1 84 2) &&& ((1 <<< (a0 &&& 31)) ^^^ (-1)))).1 84 2)).bind fun z28 =>
    some (z28, (q_w σ 84 2 ((σ.1 84 2) &&& ((1 <<< (a0 &&& 31)) ^^^ (-1))))))
set_option maxRecDepth 20000 in
theorem t_X10_leave {Z : q_Z} {l : Launch} (N : Nat) (a0 : Int32)  (σ : q_S) {r : Int32} {σ' : q_S} (h : f_X10_leave N a0 σ = some (r, σ')) : q_M Z l y_X10_leave prog_12_method_10_code 2 (some .int) 3 [.ref (Z.1 84), .int a0] σ (some (.int r)) σ' := by
  refine q_met (by decide +kernel) (Nat.le_of_ble_eq_true rfl) (fun Γ hΓ B En => ?_)
  unfold f_X10_leave at h
  refine g_cut (lv' := [(0, .ref (Z.1 84)), (1, .int a0)]) rfl ?_
  refine g_aload_n B d_X10_leave_0 rfl rfl ?_
  refine g_iload_n B d_X10_leave_1 rfl rfl ?_
  refine g_callV (p0 := 84) (ci := 10) (As := [.int a0]) (rest := []) B d_X10_leave_2 (t_X10_isThere a0 σ rfl) m_X10_isThere w_WaterOthersModel_77 (by decide) rfl rfl rfl rfl (Nat.le_of_ble_eq_true rfl) (by omega) (by decide) ?_
  refine g_if_ne (tgt := 10) B d_X10_leave_5 (by decide) h (fun h => ?_) (fun h => ?_)
  · refine g_aload_n B d_X10_leave_10 rfl rfl ?_
    refine g_dup B d_X10_leave_11 rfl ?_
    refine g_get (ci := 10) (k := 2) B d_X10_leave_12 q_in10 rfl (by decide) rfl (by decide) w_WaterOthersModel_59 rfl rfl ?_
    refine g_iconst (v := 1) B d_X10_leave_15 (by decide) ?_
    refine g_iload_n B d_X10_leave_16 rfl rfl ?_
    refine g_ishl B d_X10_leave_17 ?_
    refine g_iconst (v := (-1)) B d_X10_leave_18 (by decide) ?_
    refine g_ixor B d_X10_leave_19 ?_
    refine g_iand B d_X10_leave_20 ?_
    refine g_put (ci := 10) (k := 2) (v := ((σ.1 84 2) &&& ((1 <<< (a0 &&& 31)) ^^^ (-1)))) (ty := .int) B d_X10_leave_21 q_in10 rfl q_yk10 q_nm10 (by decide) (fun _ _ => rfl) (by decide) w_WaterOthersModel_59 rfl rfl rfl rfl rfl (Nat.le_of_ble_eq_true rfl) (fun _ _ => rfl) ?_
    refine g_aload_n B d_X10_leave_24 rfl rfl ?_
    refine g_get (ci := 10) (k := 2) B d_X10_leave_25 q_in10 rfl (by decide) rfl (by decide) w_WaterOthersModel_59 rfl rfl ?_
    obtain ⟨z28, g28, h⟩ := q_bind h
    refine g_callS (As := [.int ((q_w σ 84 2 ((σ.1 84 2) &&& ((1 <<< (a0 &&& 31)) ^^^ (-1)))).1 84 2)]) (rest := []) B d_X10_leave_28 (t_X10_bits N ((q_w σ 84 2 ((σ.1 84 2) &&& ((1 <<< (a0 &&& 31)) ^^^ (-1)))).1 84 2) (q_w σ 84 2 ((σ.1 84 2) &&& ((1 <<< (a0 &&& 31)) ^^^ (-1)))) g28) m_X10_bits w_WaterOthersModel_73 rfl rfl (Nat.le_of_ble_eq_true rfl) (by omega) (by decide) ?_
    obtain ⟨rfl, rfl⟩ := q_ps h
    exact g_iret B En d_X10_leave_31
  · refine g_iconst (v := (-1)) B d_X10_leave_8 (by decide) ?_
    obtain ⟨rfl, rfl⟩ := q_ps h
    exact g_iret B En d_X10_leave_9

theorem w_WaterOthersModel_26 : Cond.fieldLink "WaterOthersModel" 26 "WaterOthersModel" "pad" "[I" ∈ q_tbl := q_mem 694 (by decide +kernel) (by decide +kernel)
theorem w_WaterOthersModel_80 : Cond.fieldLink "WaterOthersModel" 80 "WaterOthersModel" "signs" "I" ∈ q_tbl := q_mem 693 (by decide +kernel) (by decide +kernel)
def f_X10_say (a0 : Int32) (σ : q_S) : Option (Int32 × q_S) :=
  if (f_X10_in a0 33 126) = 0 then (some ((-2), σ))
  else (if (σ.1 84 8) = 60 then (some ((-4), σ))
    else (if ¬ (((σ.1 84 8) : Int32) < 0 ∨ 60 ≤ ((σ.1 84 8) : Int32).toNatClampNeg) then some (((q_w (q_w σ 89 ((σ.1 84 8) : Int32).toNatClampNeg a0) 84 8 (((q_w σ 89 ((σ.1 84 8) : Int32).toNatClampNeg a0).1 84 8) + 1)).1 84 8), (q_w (q_w σ 89 ((σ.1 84 8) : Int32).toNatClampNeg a0) 84 8 (((q_w σ 89 ((σ.1 84 8) : Int32).toNatClampNeg a0).1 84 8) + 1))) else none))
set_option maxRecDepth 20000 in
theorem t_X10_say {Z : q_Z} {l : Launch} (a0 : Int32)  (σ : q_S) {r : Int32} {σ' : q_S} (h : f_X10_say a0 σ = some (r, σ')) : q_M Z l y_X10_say prog_12_method_11_code 2 (some .int) 2 [.ref (Z.1 84), .int a0] σ (some (.int r)) σ' := by
  refine q_met (by decide +kernel) (Nat.le_of_ble_eq_true rfl) (fun Γ hΓ B En => ?_)
  unfold f_X10_say at h
  refine g_cut (lv' := [(0, .ref (Z.1 84)), (1, .int a0)]) rfl ?_
  refine g_iload_n B d_X10_say_0 rfl rfl ?_
  refine g_bipush (v := 33) B d_X10_say_1 (by decide) ?_
  refine g_bipush (v := 126) B d_X10_say_3 (by decide) ?_
  refine g_callS (As := [.int a0, .int 33, .int 126]) (rest := []) B d_X10_say_5 (t_X10_in a0 33 126 σ rfl) m_X10_in w_WaterOthersModel_55 rfl rfl (Nat.le_of_ble_eq_true rfl) (by omega) (by decide) ?_
  refine g_if_ne (tgt := 14) B d_X10_say_8 (by decide) h (fun h => ?_) (fun h => ?_)
  · refine g_aload_n B d_X10_say_14 rfl rfl ?_
    refine g_get (ci := 10) (k := 8) B d_X10_say_15 q_in10 rfl (by decide) rfl (by decide) w_WaterOthersModel_80 rfl rfl ?_
    refine g_bipush (v := 60) B d_X10_say_18 (by decide) ?_
    refine g_icmp_ne (tgt := 26) B d_X10_say_20 (by decide) h (fun h => ?_) (fun h => ?_)
    · refine g_aload_n B d_X10_say_26 rfl rfl ?_
      refine g_get (ci := 10) (k := 9) (v := .ref (Z.1 89)) B d_X10_say_27 q_in10 rfl (by decide) rfl (by decide) w_WaterOthersModel_26 rfl rfl ?_
      refine g_aload_n B d_X10_say_30 rfl rfl ?_
      refine g_get (ci := 10) (k := 8) B d_X10_say_31 q_in10 rfl (by decide) rfl (by decide) w_WaterOthersModel_80 rfl rfl ?_
      refine g_iload_n B d_X10_say_34 rfl rfl ?_
      obtain ⟨h35, h⟩ := q_chk h
      refine g_iast B d_X10_say_35 (by decide) (fun _ _ => rfl) h35 ?_
      refine g_aload_n B d_X10_say_36 rfl rfl ?_
      refine g_dup B d_X10_say_37 rfl ?_
      refine g_get (ci := 10) (k := 8) B d_X10_say_38 q_in10 rfl (by decide) rfl (by decide) w_WaterOthersModel_80 rfl rfl ?_
      refine g_iconst (v := 1) B d_X10_say_41 (by decide) ?_
      refine g_iadd B d_X10_say_42 ?_
      refine g_put (ci := 10) (k := 8) (v := (((q_w σ 89 ((σ.1 84 8) : Int32).toNatClampNeg a0).1 84 8) + 1)) (ty := .int) B d_X10_say_43 q_in10 rfl q_yk10 q_nm10 (by decide) (fun _ _ => rfl) (by decide) w_WaterOthersModel_80 rfl rfl rfl rfl rfl (Nat.le_of_ble_eq_true rfl) (fun _ _ => rfl) ?_
      refine g_aload_n B d_X10_say_46 rfl rfl ?_
      refine g_get (ci := 10) (k := 8) B d_X10_say_47 q_in10 rfl (by decide) rfl (by decide) w_WaterOthersModel_80 rfl rfl ?_
      obtain ⟨rfl, rfl⟩ := q_ps h
      exact g_iret B En d_X10_say_50
    · refine g_bipush (v := (-4)) B d_X10_say_23 (by decide) ?_
      obtain ⟨rfl, rfl⟩ := q_ps h
      exact g_iret B En d_X10_say_25
  · refine g_bipush (v := (-2)) B d_X10_say_11 (by decide) ?_
    obtain ⟨rfl, rfl⟩ := q_ps h
    exact g_iret B En d_X10_say_13

def f_X10_wipe  (σ : q_S) : (Int32 × q_S) :=
  ((σ.1 84 8), (q_w σ 84 8 0))
set_option maxRecDepth 20000 in
theorem t_X10_wipe {Z : q_Z} {l : Launch}   (σ : q_S) {r : Int32} {σ' : q_S} (h : f_X10_wipe σ = (r, σ')) : q_M Z l y_X10_wipe prog_12_method_12_code 2 (some .int) 1 [.ref (Z.1 84)] σ (some (.int r)) σ' := by
  refine q_met (by decide +kernel) (Nat.le_of_ble_eq_true rfl) (fun Γ hΓ B En => ?_)
  unfold f_X10_wipe at h
  refine g_cut (lv' := [(0, .ref (Z.1 84))]) rfl ?_
  refine g_aload_n B d_X10_wipe_0 rfl rfl ?_
  refine g_get (ci := 10) (k := 8) B d_X10_wipe_1 q_in10 rfl (by decide) rfl (by decide) w_WaterOthersModel_80 rfl rfl ?_
  refine g_istore_n B d_X10_wipe_4 rfl (by decide) ?_
  refine g_aload_n B d_X10_wipe_5 rfl rfl ?_
  refine g_iconst (v := 0) B d_X10_wipe_6 (by decide) ?_
  refine g_put (ci := 10) (k := 8) (v := 0) (ty := .int) B d_X10_wipe_7 q_in10 rfl q_yk10 q_nm10 (by decide) (fun _ _ => rfl) (by decide) w_WaterOthersModel_80 rfl rfl rfl rfl rfl (Nat.le_of_ble_eq_true rfl) (fun _ _ => rfl) ?_
  refine g_iload_n B d_X10_wipe_10 rfl rfl ?_
  obtain ⟨rfl, rfl⟩ := q_pr h
  exact g_iret B En d_X10_wipe_11

def f_X10_faultOf_83 (N : Nat) (k4 : Int32 → Int32 → Option Int32) (x1 : Int32) (x2 : Int32) (x3 : Int32) (t0 : Int32) (σ : q_S) : Option Int32 :=
  if t0 = 0 then (some x2)
  else (if x1 = 0 then (if (f_X10_in x3 65 70) = 0 then (k4 0 (x2 + 1))
      else (k4 1 (x2 + 1)))
    else (k4 0 (x2 + 1)))
def f_X10_faultOf_4 (N : Nat)   (σ : q_S) : Nat → Int32 → Int32 → Option Int32
  | 0, _, _ => none
  | n + 1, x1, x2 =>
    if (σ.1 84 8) ≤ x2 then (if x1 = 0 then (some (-6))
      else (some (σ.1 84 8)))
    else (if ¬ ((x2 : Int32) < 0 ∨ 60 ≤ (x2 : Int32).toNatClampNeg) then if x1 = 0 then (if (f_X10_in (σ.1 89 (x2 : Int32).toNatClampNeg) 65 70) = 0 then (if (σ.1 89 (x2 : Int32).toNatClampNeg) = 126 then (f_X10_faultOf_83 N (fun x1 x2 => f_X10_faultOf_4 N σ n x1 x2) x1 x2 (σ.1 89 (x2 : Int32).toNatClampNeg) 1 σ)
          else (if (σ.1 89 (x2 : Int32).toNatClampNeg) = 46 then (f_X10_faultOf_83 N (fun x1 x2 => f_X10_faultOf_4 N σ n x1 x2) x1 x2 (σ.1 89 (x2 : Int32).toNatClampNeg) 1 σ)
            else (f_X10_faultOf_83 N (fun x1 x2 => f_X10_faultOf_4 N σ n x1 x2) x1 x2 (σ.1 89 (x2 : Int32).toNatClampNeg) 0 σ)))
        else (f_X10_faultOf_83 N (fun x1 x2 => f_X10_faultOf_4 N σ n x1 x2) x1 x2 (σ.1 89 (x2 : Int32).toNatClampNeg) 1 σ))
      else (if (σ.1 89 (x2 : Int32).toNatClampNeg) = 60 then (f_X10_faultOf_83 N (fun x1 x2 => f_X10_faultOf_4 N σ n x1 x2) x1 x2 (σ.1 89 (x2 : Int32).toNatClampNeg) 1 σ)
        else (if (σ.1 89 (x2 : Int32).toNatClampNeg) = 62 then (f_X10_faultOf_83 N (fun x1 x2 => f_X10_faultOf_4 N σ n x1 x2) x1 x2 (σ.1 89 (x2 : Int32).toNatClampNeg) 1 σ)
          else (if (σ.1 89 (x2 : Int32).toNatClampNeg) = 61 then (f_X10_faultOf_83 N (fun x1 x2 => f_X10_faultOf_4 N σ n x1 x2) x1 x2 (σ.1 89 (x2 : Int32).toNatClampNeg) 1 σ)
            else (if (σ.1 89 (x2 : Int32).toNatClampNeg) = 42 then (f_X10_faultOf_83 N (fun x1 x2 => f_X10_faultOf_4 N σ n x1 x2) x1 x2 (σ.1 89 (x2 : Int32).toNatClampNeg) 1 σ)
              else (f_X10_faultOf_83 N (fun x1 x2 => f_X10_faultOf_4 N σ n x1 x2) x1 x2 (σ.1 89 (x2 : Int32).toNatClampNeg) 0 σ))))) else none)
def f_X10_faultOf (N : Nat)  (σ : q_S) : Option Int32 :=
  f_X10_faultOf_4 N σ N 0 0
set_option maxRecDepth 20000 in
theorem t_X10_faultOf_83 {Z : q_Z} {Γ : q_C} {σ : q_S} {r : Int32} (B : q_B Z Γ prog_12_method_13_code "WaterOthersModel" 5 2) (En : q_E Z Γ (some .int) (some (.int r)) σ) (N : Nat) (k4 : Int32 → Int32 → Option Int32) (x1 : Int32) (x2 : Int32) (x3 : Int32) (t0 : Int32) (K4 : ∀ (x1 : Int32) (x2 : Int32), k4 x1 x2 = some r → q_G Z Γ 5 σ 4 [(0, .ref (Z.1 84)), (1, .int x1), (2, .int x2)] [])  (h : f_X10_faultOf_83 N k4 x1 x2 x3 t0 σ = some r) : q_G Z Γ 5 σ 83 [(0, .ref (Z.1 84)), (1, .int x1), (2, .int x2), (3, .int x3)] [.int t0] := by
  unfold f_X10_faultOf_83 at h
  refine g_istore B d_X10_faultOf_83 (by decide) ?_
  refine g_iload B d_X10_faultOf_85 rfl ?_
  refine g_if_ne (tgt := 92) B d_X10_faultOf_87 (by decide) h (fun h => ?_) (fun h => ?_)
  · refine g_iload_n B d_X10_faultOf_92 rfl rfl ?_
    refine g_if_ne (tgt := 111) B d_X10_faultOf_93 (by decide) h (fun h => ?_) (fun h => ?_)
    · refine g_iconst (v := 0) B d_X10_faultOf_111 (by decide) ?_
      refine g_istore_n B d_X10_faultOf_112 rfl (by decide) ?_
      refine g_iinc (v := (x2 + 1)) B d_X10_faultOf_113 rfl rfl (by decide) ?_
      refine g_goto (tgt := 4) B d_X10_faultOf_116 (by decide) ?_
      exact g_cut rfl (K4 0 (x2 + 1) h)
    · refine g_iload_n B d_X10_faultOf_96 rfl rfl ?_
      refine g_bipush (v := 65) B d_X10_faultOf_97 (by decide) ?_
      refine g_bipush (v := 70) B d_X10_faultOf_99 (by decide) ?_
      refine g_callS (As := [.int x3, .int 65, .int 70]) (rest := []) B d_X10_faultOf_101 (t_X10_in x3 65 70 σ rfl) m_X10_in w_WaterOthersModel_55 rfl rfl (Nat.le_of_ble_eq_true rfl) (by omega) (by decide) ?_
      refine g_if_eq (tgt := 111) B d_X10_faultOf_104 (by decide) h (fun h => ?_) (fun h => ?_)
      · refine g_iconst (v := 0) B d_X10_faultOf_111 (by decide) ?_
        refine g_istore_n B d_X10_faultOf_112 rfl (by decide) ?_
        refine g_iinc (v := (x2 + 1)) B d_X10_faultOf_113 rfl rfl (by decide) ?_
        refine g_goto (tgt := 4) B d_X10_faultOf_116 (by decide) ?_
        exact g_cut rfl (K4 0 (x2 + 1) h)
      · refine g_iconst (v := 1) B d_X10_faultOf_107 (by decide) ?_
        refine g_goto (tgt := 112) B d_X10_faultOf_108 (by decide) ?_
        refine g_istore_n B d_X10_faultOf_112 rfl (by decide) ?_
        refine g_iinc (v := (x2 + 1)) B d_X10_faultOf_113 rfl rfl (by decide) ?_
        refine g_goto (tgt := 4) B d_X10_faultOf_116 (by decide) ?_
        exact g_cut rfl (K4 1 (x2 + 1) h)
  · refine g_iload_n B d_X10_faultOf_90 rfl rfl ?_
    obtain rfl := q_po h
    exact g_iret B En d_X10_faultOf_91
set_option maxRecDepth 20000 in
theorem t_X10_faultOf_4 {Z : q_Z} {Γ : q_C} {σ : q_S} {r : Int32} (B : q_B Z Γ prog_12_method_13_code "WaterOthersModel" 5 2) (En : q_E Z Γ (some .int) (some (.int r)) σ) (N : Nat)     : ∀ (n : Nat) (x1 : Int32) (x2 : Int32), f_X10_faultOf_4 N σ n x1 x2 = some r → q_G Z Γ 5 σ 4 [(0, .ref (Z.1 84)), (1, .int x1), (2, .int x2)] [] := by
  intro n
  induction n with
  | zero =>
    intro x1 x2 h
    cases h
  | succ n ih =>
    intro x1 x2 h
    unfold f_X10_faultOf_4 at h
    refine g_iload_n B d_X10_faultOf_4 rfl rfl ?_
    refine g_aload_n B d_X10_faultOf_5 rfl rfl ?_
    refine g_get (ci := 10) (k := 8) B d_X10_faultOf_6 q_in10 rfl (by decide) rfl (by decide) w_WaterOthersModel_80 rfl rfl ?_
    refine g_icmp_ge (tgt := 119) B d_X10_faultOf_9 (by decide) h (fun h => ?_) (fun h => ?_)
    · refine g_iload_n B d_X10_faultOf_119 rfl rfl ?_
      refine g_if_eq (tgt := 130) B d_X10_faultOf_120 (by decide) h (fun h => ?_) (fun h => ?_)
      · refine g_bipush (v := (-6)) B d_X10_faultOf_130 (by decide) ?_
        obtain rfl := q_po h
        exact g_iret B En d_X10_faultOf_132
      · refine g_aload_n B d_X10_faultOf_123 rfl rfl ?_
        refine g_get (ci := 10) (k := 8) B d_X10_faultOf_124 q_in10 rfl (by decide) rfl (by decide) w_WaterOthersModel_80 rfl rfl ?_
        refine g_goto (tgt := 132) B d_X10_faultOf_127 (by decide) ?_
        obtain rfl := q_po h
        exact g_iret B En d_X10_faultOf_132
    · refine g_aload_n B d_X10_faultOf_12 rfl rfl ?_
      refine g_get (ci := 10) (k := 9) (v := .ref (Z.1 89)) B d_X10_faultOf_13 q_in10 rfl (by decide) rfl (by decide) w_WaterOthersModel_26 rfl rfl ?_
      refine g_iload_n B d_X10_faultOf_16 rfl rfl ?_
      obtain ⟨h17, h⟩ := q_chk h
      refine g_iald B d_X10_faultOf_17 (by decide) (fun _ _ => rfl) h17 ?_
      refine g_istore_n B d_X10_faultOf_18 rfl (by decide) ?_
      refine g_iload_n B d_X10_faultOf_19 rfl rfl ?_
      refine g_if_eq (tgt := 55) B d_X10_faultOf_20 (by decide) h (fun h => ?_) (fun h => ?_)
      · refine g_iload_n B d_X10_faultOf_55 rfl rfl ?_
        refine g_bipush (v := 65) B d_X10_faultOf_56 (by decide) ?_
        refine g_bipush (v := 70) B d_X10_faultOf_58 (by decide) ?_
        refine g_callS (As := [.int (σ.1 89 (x2 : Int32).toNatClampNeg), .int 65, .int 70]) (rest := []) B d_X10_faultOf_60 (t_X10_in (σ.1 89 (x2 : Int32).toNatClampNeg) 65 70 σ rfl) m_X10_in w_WaterOthersModel_55 rfl rfl (Nat.le_of_ble_eq_true rfl) (by omega) (by decide) ?_
        refine g_if_ne (tgt := 78) B d_X10_faultOf_63 (by decide) h (fun h => ?_) (fun h => ?_)
        · refine g_iconst (v := 1) B d_X10_faultOf_78 (by decide) ?_
          refine g_goto (tgt := 83) B d_X10_faultOf_79 (by decide) ?_
          exact g_cut rfl (t_X10_faultOf_83 B En N (fun x1 x2 => f_X10_faultOf_4 N σ n x1 x2) x1 x2 (σ.1 89 (x2 : Int32).toNatClampNeg) 1 (ih) h)
        · refine g_iload_n B d_X10_faultOf_66 rfl rfl ?_
          refine g_bipush (v := 126) B d_X10_faultOf_67 (by decide) ?_
          refine g_icmp_eq (tgt := 78) B d_X10_faultOf_69 (by decide) h (fun h => ?_) (fun h => ?_)
          · refine g_iconst (v := 1) B d_X10_faultOf_78 (by decide) ?_
            refine g_goto (tgt := 83) B d_X10_faultOf_79 (by decide) ?_
            exact g_cut rfl (t_X10_faultOf_83 B En N (fun x1 x2 => f_X10_faultOf_4 N σ n x1 x2) x1 x2 (σ.1 89 (x2 : Int32).toNatClampNeg) 1 (ih) h)
          · refine g_iload_n B d_X10_faultOf_72 rfl rfl ?_
            refine g_bipush (v := 46) B d_X10_faultOf_73 (by decide) ?_
            refine g_icmp_ne (tgt := 82) B d_X10_faultOf_75 (by decide) h (fun h => ?_) (fun h => ?_)
            · refine g_iconst (v := 0) B d_X10_faultOf_82 (by decide) ?_
              exact g_cut rfl (t_X10_faultOf_83 B En N (fun x1 x2 => f_X10_faultOf_4 N σ n x1 x2) x1 x2 (σ.1 89 (x2 : Int32).toNatClampNeg) 0 (ih) h)
            · refine g_iconst (v := 1) B d_X10_faultOf_78 (by decide) ?_
              refine g_goto (tgt := 83) B d_X10_faultOf_79 (by decide) ?_
              exact g_cut rfl (t_X10_faultOf_83 B En N (fun x1 x2 => f_X10_faultOf_4 N σ n x1 x2) x1 x2 (σ.1 89 (x2 : Int32).toNatClampNeg) 1 (ih) h)
      · refine g_iload_n B d_X10_faultOf_23 rfl rfl ?_
        refine g_bipush (v := 60) B d_X10_faultOf_24 (by decide) ?_
        refine g_icmp_eq (tgt := 47) B d_X10_faultOf_26 (by decide) h (fun h => ?_) (fun h => ?_)
        · refine g_iconst (v := 1) B d_X10_faultOf_47 (by decide) ?_
          refine g_goto (tgt := 83) B d_X10_faultOf_48 (by decide) ?_
          exact g_cut rfl (t_X10_faultOf_83 B En N (fun x1 x2 => f_X10_faultOf_4 N σ n x1 x2) x1 x2 (σ.1 89 (x2 : Int32).toNatClampNeg) 1 (ih) h)
        · refine g_iload_n B d_X10_faultOf_29 rfl rfl ?_
          refine g_bipush (v := 62) B d_X10_faultOf_30 (by decide) ?_
          refine g_icmp_eq (tgt := 47) B d_X10_faultOf_32 (by decide) h (fun h => ?_) (fun h => ?_)
          · refine g_iconst (v := 1) B d_X10_faultOf_47 (by decide) ?_
            refine g_goto (tgt := 83) B d_X10_faultOf_48 (by decide) ?_
            exact g_cut rfl (t_X10_faultOf_83 B En N (fun x1 x2 => f_X10_faultOf_4 N σ n x1 x2) x1 x2 (σ.1 89 (x2 : Int32).toNatClampNeg) 1 (ih) h)
          · refine g_iload_n B d_X10_faultOf_35 rfl rfl ?_
            refine g_bipush (v := 61) B d_X10_faultOf_36 (by decide) ?_
            refine g_icmp_eq (tgt := 47) B d_X10_faultOf_38 (by decide) h (fun h => ?_) (fun h => ?_)
            · refine g_iconst (v := 1) B d_X10_faultOf_47 (by decide) ?_
              refine g_goto (tgt := 83) B d_X10_faultOf_48 (by decide) ?_
              exact g_cut rfl (t_X10_faultOf_83 B En N (fun x1 x2 => f_X10_faultOf_4 N σ n x1 x2) x1 x2 (σ.1 89 (x2 : Int32).toNatClampNeg) 1 (ih) h)
            · refine g_iload_n B d_X10_faultOf_41 rfl rfl ?_
              refine g_bipush (v := 42) B d_X10_faultOf_42 (by decide) ?_
              refine g_icmp_ne (tgt := 51) B d_X10_faultOf_44 (by decide) h (fun h => ?_) (fun h => ?_)
              · refine g_iconst (v := 0) B d_X10_faultOf_51 (by decide) ?_
                refine g_goto (tgt := 83) B d_X10_faultOf_52 (by decide) ?_
                exact g_cut rfl (t_X10_faultOf_83 B En N (fun x1 x2 => f_X10_faultOf_4 N σ n x1 x2) x1 x2 (σ.1 89 (x2 : Int32).toNatClampNeg) 0 (ih) h)
              · refine g_iconst (v := 1) B d_X10_faultOf_47 (by decide) ?_
                refine g_goto (tgt := 83) B d_X10_faultOf_48 (by decide) ?_
                exact g_cut rfl (t_X10_faultOf_83 B En N (fun x1 x2 => f_X10_faultOf_4 N σ n x1 x2) x1 x2 (σ.1 89 (x2 : Int32).toNatClampNeg) 1 (ih) h)
set_option maxRecDepth 20000 in
theorem t_X10_faultOf {Z : q_Z} {l : Launch} (N : Nat)   (σ : q_S) {r : Int32} (h : f_X10_faultOf N σ = some r) : q_M Z l y_X10_faultOf prog_12_method_13_code 5 (some .int) 2 [.ref (Z.1 84)] σ (some (.int r)) σ := by
  refine q_met (by decide +kernel) (Nat.le_of_ble_eq_true rfl) (fun Γ hΓ B En => ?_)
  unfold f_X10_faultOf at h
  refine g_cut (lv' := [(0, .ref (Z.1 84))]) rfl ?_
  refine g_iconst (v := 0) B d_X10_faultOf_0 (by decide) ?_
  refine g_istore_n B d_X10_faultOf_1 rfl (by decide) ?_
  refine g_iconst (v := 0) B d_X10_faultOf_2 (by decide) ?_
  refine g_istore_n B d_X10_faultOf_3 rfl (by decide) ?_
  exact g_cut rfl (t_X10_faultOf_4 B En N N 0 0 h)

theorem w_WaterOthersModel_83 : Cond.methodLink "WaterOthersModel" 83 y_X10_faultOf ∈ q_tbl := q_mem 796 (by decide +kernel) (by decide +kernel)
def f_X10_fault (N : Nat)  (σ : q_S) : Option Int32 :=
  (f_X10_faultOf N σ).bind fun z1 =>
  some z1
set_option maxRecDepth 20000 in
theorem t_X10_fault {Z : q_Z} {l : Launch} (N : Nat)   (σ : q_S) {r : Int32} (h : f_X10_fault N σ = some r) : q_M Z l y_X10_fault prog_12_method_14_code 1 (some .int) 3 [.ref (Z.1 84)] σ (some (.int r)) σ := by
  refine q_met (by decide +kernel) (Nat.le_of_ble_eq_true rfl) (fun Γ hΓ B En => ?_)
  unfold f_X10_fault at h
  refine g_cut (lv' := [(0, .ref (Z.1 84))]) rfl ?_
  refine g_aload_n B d_X10_fault_0 rfl rfl ?_
  obtain ⟨z1, g1, h⟩ := q_bind h
  refine g_callV (p0 := 84) (ci := 10) (As := []) (rest := []) B d_X10_fault_1 (t_X10_faultOf N σ g1) m_X10_faultOf w_WaterOthersModel_83 (by decide) rfl rfl rfl rfl (Nat.le_of_ble_eq_true rfl) (by omega) (by decide) ?_
  obtain rfl := q_po h
  exact g_iret B En d_X10_fault_4

theorem w_WaterOthersModel_13 : Cond.fieldLink "WaterOthersModel" 13 "WaterOthersModel" "now" "[I" ∈ q_tbl := q_mem 686 (by decide +kernel) (by decide +kernel)
theorem w_WaterOthersModel_87 : Cond.fieldLink "WaterOthersModel" 87 "WaterOthersModel" "partedAt" "I" ∈ q_tbl := q_mem 695 (by decide +kernel) (by decide +kernel)
theorem w_WaterOthersModel_90 : Cond.fieldLink "WaterOthersModel" 90 "WaterOthersModel" "partedWho" "I" ∈ q_tbl := q_mem 696 (by decide +kernel) (by decide +kernel)
def f_X10_asNow_2 (N : Nat)    : Nat → Int32 → q_S → Option q_S
  | 0, _, _ => none
  | n + 1, x1, σ =>
    if (50 : Int32) ≤ x1 then (some (q_w (q_w σ 84 10 (-6)) 84 11 (-6)))
    else (if ¬ ((x1 : Int32) < 0 ∨ 50 ≤ (x1 : Int32).toNatClampNeg) then f_X10_asNow_2 N n (x1 + 1) (q_w σ 86 (x1 : Int32).toNatClampNeg (σ.1 85 (x1 : Int32).toNatClampNeg)) else none)
def f_X10_asNow (N : Nat)  (σ : q_S) : Option q_S :=
  f_X10_asNow_2 N N 0 σ
set_option maxRecDepth 20000 in
theorem t_X10_asNow_2 {Z : q_Z} {Γ : q_C} {σ' : q_S} (B : q_B Z Γ prog_12_method_15_code "WaterOthersModel" 2 1) (En : q_E Z Γ none none σ') (N : Nat)     : ∀ (n : Nat) (x1 : Int32) (σ : q_S), f_X10_asNow_2 N n x1 σ = some σ' → q_G Z Γ 2 σ 2 [(0, .ref (Z.1 84)), (1, .int x1)] [] := by
  intro n
  induction n with
  | zero =>
    intro x1 σ h
    cases h
  | succ n ih =>
    intro x1 σ h
    unfold f_X10_asNow_2 at h
    refine g_iload_n B d_X10_asNow_2 rfl rfl ?_
    refine g_bipush (v := 50) B d_X10_asNow_3 (by decide) ?_
    refine g_icmp_ge (tgt := 26) B d_X10_asNow_5 (by decide) h (fun h => ?_) (fun h => ?_)
    · refine g_aload_n B d_X10_asNow_26 rfl rfl ?_
      refine g_bipush (v := (-6)) B d_X10_asNow_27 (by decide) ?_
      refine g_put (ci := 10) (k := 10) (v := (-6)) (ty := .int) B d_X10_asNow_29 q_in10 rfl q_yk10 q_nm10 (by decide) (fun _ _ => rfl) (by decide) w_WaterOthersModel_87 rfl rfl rfl rfl rfl (Nat.le_of_ble_eq_true rfl) (fun _ _ => rfl) ?_
      refine g_aload_n B d_X10_asNow_32 rfl rfl ?_
      refine g_bipush (v := (-6)) B d_X10_asNow_33 (by decide) ?_
      refine g_put (ci := 10) (k := 11) (v := (-6)) (ty := .int) B d_X10_asNow_35 q_in10 rfl q_yk10 q_nm10 (by decide) (fun _ _ => rfl) (by decide) w_WaterOthersModel_90 rfl rfl rfl rfl rfl (Nat.le_of_ble_eq_true rfl) (fun _ _ => rfl) ?_
      obtain rfl := q_po h
      exact g_vret B En d_X10_asNow_38
    · refine g_aload_n B d_X10_asNow_8 rfl rfl ?_
      refine g_get (ci := 10) (k := 1) (v := .ref (Z.1 86)) B d_X10_asNow_9 q_in10 rfl (by decide) rfl (by decide) w_WaterOthersModel_13 rfl rfl ?_
      refine g_iload_n B d_X10_asNow_12 rfl rfl ?_
      refine g_aload_n B d_X10_asNow_13 rfl rfl ?_
      refine g_get (ci := 10) (k := 0) (v := .ref (Z.1 85)) B d_X10_asNow_14 q_in10 rfl (by decide) rfl (by decide) w_WaterOthersModel_7 rfl rfl ?_
      refine g_iload_n B d_X10_asNow_17 rfl rfl ?_
      obtain ⟨h18, h⟩ := q_chk h
      refine g_iald B d_X10_asNow_18 (by decide) (fun _ _ => rfl) h18 ?_
      refine g_iast B d_X10_asNow_19 (by decide) (fun _ _ => rfl) h18 ?_
      refine g_iinc (v := (x1 + 1)) B d_X10_asNow_20 rfl rfl (by decide) ?_
      refine g_goto (tgt := 2) B d_X10_asNow_23 (by decide) ?_
      exact g_cut rfl (ih (x1 + 1) (q_w σ 86 (x1 : Int32).toNatClampNeg (σ.1 85 (x1 : Int32).toNatClampNeg)) h)
set_option maxRecDepth 20000 in
theorem t_X10_asNow {Z : q_Z} {l : Launch} (N : Nat)   (σ : q_S) {σ' : q_S} (h : f_X10_asNow N σ = some σ') : q_M Z l y_X10_asNow prog_12_method_15_code 2 none 1 [.ref (Z.1 84)] σ none σ' := by
  refine q_met (by decide +kernel) (Nat.le_of_ble_eq_true rfl) (fun Γ hΓ B En => ?_)
  unfold f_X10_asNow at h
  refine g_cut (lv' := [(0, .ref (Z.1 84))]) rfl ?_
  refine g_iconst (v := 0) B d_X10_asNow_0 (by decide) ?_
  refine g_istore_n B d_X10_asNow_1 rfl (by decide) ?_
  exact g_cut rfl (t_X10_asNow_2 B En N N 0 σ h)

def f_X10_hasParted (a0 : Int32) (σ : q_S) : Option Int32 :=
  if ¬ (((36 + a0) : Int32) < 0 ∨ 50 ≤ ((36 + a0) : Int32).toNatClampNeg) then if (σ.1 86 ((36 + a0) : Int32).toNatClampNeg) < 0 then (some 0)
  else (some 1) else none
set_option maxRecDepth 20000 in
theorem t_X10_hasParted {Z : q_Z} {l : Launch} (a0 : Int32)  (σ : q_S) {r : Int32} (h : f_X10_hasParted a0 σ = some r) : q_M Z l y_X10_hasParted prog_12_method_16_code 2 (some .boolean) 1 [.ref (Z.1 84), .int a0] σ (some (.int r)) σ := by
  refine q_met (by decide +kernel) (Nat.le_of_ble_eq_true rfl) (fun Γ hΓ B En => ?_)
  unfold f_X10_hasParted at h
  refine g_cut (lv' := [(0, .ref (Z.1 84)), (1, .int a0)]) rfl ?_
  refine g_aload_n B d_X10_hasParted_0 rfl rfl ?_
  refine g_get (ci := 10) (k := 1) (v := .ref (Z.1 86)) B d_X10_hasParted_1 q_in10 rfl (by decide) rfl (by decide) w_WaterOthersModel_13 rfl rfl ?_
  refine g_bipush (v := 36) B d_X10_hasParted_4 (by decide) ?_
  refine g_iload_n B d_X10_hasParted_6 rfl rfl ?_
  refine g_iadd B d_X10_hasParted_7 ?_
  obtain ⟨h8, h⟩ := q_chk h
  refine g_iald B d_X10_hasParted_8 (by decide) (fun _ _ => rfl) h8 ?_
  refine g_if_lt (tgt := 16) B d_X10_hasParted_9 (by decide) h (fun h => ?_) (fun h => ?_)
  · refine g_iconst (v := 0) B d_X10_hasParted_16 (by decide) ?_
    obtain rfl := q_po h
    exact g_zret B En d_X10_hasParted_17 (by decide)
  · refine g_iconst (v := 1) B d_X10_hasParted_12 (by decide) ?_
    refine g_goto (tgt := 17) B d_X10_hasParted_13 (by decide) ?_
    obtain rfl := q_po h
    exact g_zret B En d_X10_hasParted_17 (by decide)

theorem w_WaterOthersModel_93 : Cond.methodLink "WaterOthersModel" 93 y_X10_hasParted ∈ q_tbl := q_mem 816 (by decide +kernel) (by decide +kernel)
def f_X10_otherOf (a0 : Int32) (σ : q_S) : Option Int32 :=
  (f_X10_hasParted a0 σ).bind fun z2 =>
  if z2 = 0 then (if (σ.1 86 (48 : Int32).toNatClampNeg) = 1 then (some (-6))
    else (if ¬ ((a0 : Int32) < 0 ∨ 6 ≤ (a0 : Int32).toNatClampNeg) then if ¬ ((((6 * a0) + (σ.1 87 (a0 : Int32).toNatClampNeg)) : Int32) < 0 ∨ 50 ≤ (((6 * a0) + (σ.1 87 (a0 : Int32).toNatClampNeg)) : Int32).toNatClampNeg) then some (σ.1 86 (((6 * a0) + (σ.1 87 (a0 : Int32).toNatClampNeg)) : Int32).toNatClampNeg) else none else none))
  else (if ¬ (((36 + a0) : Int32) < 0 ∨ 50 ≤ ((36 + a0) : Int32).toNatClampNeg) then some (σ.1 86 ((36 + a0) : Int32).toNatClampNeg) else none)
set_option maxRecDepth 20000 in
theorem t_X10_otherOf {Z : q_Z} {l : Launch} (a0 : Int32)  (σ : q_S) {r : Int32} (h : f_X10_otherOf a0 σ = some r) : q_M Z l y_X10_otherOf prog_12_method_17_code 2 (some .int) 2 [.ref (Z.1 84), .int a0] σ (some (.int r)) σ := by
  refine q_met (by decide +kernel) (Nat.le_of_ble_eq_true rfl) (fun Γ hΓ B En => ?_)
  unfold f_X10_otherOf at h
  refine g_cut (lv' := [(0, .ref (Z.1 84)), (1, .int a0)]) rfl ?_
  refine g_aload_n B d_X10_otherOf_0 rfl rfl ?_
  refine g_iload_n B d_X10_otherOf_1 rfl rfl ?_
  obtain ⟨z2, g2, h⟩ := q_bind h
  refine g_callV (p0 := 84) (ci := 10) (As := [.int a0]) (rest := []) B d_X10_otherOf_2 (t_X10_hasParted a0 σ g2) m_X10_hasParted w_WaterOthersModel_93 (by decide) rfl rfl rfl rfl (Nat.le_of_ble_eq_true rfl) (by omega) (by decide) ?_
  refine g_if_eq (tgt := 20) B d_X10_otherOf_5 (by decide) h (fun h => ?_) (fun h => ?_)
  · refine g_aload_n B d_X10_otherOf_20 rfl rfl ?_
    refine g_get (ci := 10) (k := 1) (v := .ref (Z.1 86)) B d_X10_otherOf_21 q_in10 rfl (by decide) rfl (by decide) w_WaterOthersModel_13 rfl rfl ?_
    refine g_bipush (v := 48) B d_X10_otherOf_24 (by decide) ?_
    refine g_iald B d_X10_otherOf_26 (by decide) (fun _ _ => rfl) (by decide) ?_
    refine g_iconst (v := 1) B d_X10_otherOf_27 (by decide) ?_
    refine g_icmp_ne (tgt := 36) B d_X10_otherOf_28 (by decide) h (fun h => ?_) (fun h => ?_)
    · refine g_aload_n B d_X10_otherOf_36 rfl rfl ?_
      refine g_get (ci := 10) (k := 1) (v := .ref (Z.1 86)) B d_X10_otherOf_37 q_in10 rfl (by decide) rfl (by decide) w_WaterOthersModel_13 rfl rfl ?_
      refine g_bipush (v := 6) B d_X10_otherOf_40 (by decide) ?_
      refine g_iload_n B d_X10_otherOf_42 rfl rfl ?_
      refine g_imul B d_X10_otherOf_43 ?_
      refine g_aload_n B d_X10_otherOf_44 rfl rfl ?_
      refine g_get (ci := 10) (k := 3) (v := .ref (Z.1 87)) B d_X10_otherOf_45 q_in10 rfl (by decide) rfl (by decide) w_WaterOthersModel_16 rfl rfl ?_
      refine g_iload_n B d_X10_otherOf_48 rfl rfl ?_
      obtain ⟨h49, h⟩ := q_chk h
      refine g_iald B d_X10_otherOf_49 (by decide) (fun _ _ => rfl) h49 ?_
      refine g_iadd B d_X10_otherOf_50 ?_
      obtain ⟨h51, h⟩ := q_chk h
      refine g_iald B d_X10_otherOf_51 (by decide) (fun _ _ => rfl) h51 ?_
      obtain rfl := q_po h
      exact g_iret B En d_X10_otherOf_52
    · refine g_bipush (v := (-6)) B d_X10_otherOf_31 (by decide) ?_
      refine g_goto (tgt := 52) B d_X10_otherOf_33 (by decide) ?_
      obtain rfl := q_po h
      exact g_iret B En d_X10_otherOf_52
  · refine g_aload_n B d_X10_otherOf_8 rfl rfl ?_
    refine g_get (ci := 10) (k := 1) (v := .ref (Z.1 86)) B d_X10_otherOf_9 q_in10 rfl (by decide) rfl (by decide) w_WaterOthersModel_13 rfl rfl ?_
    refine g_bipush (v := 36) B d_X10_otherOf_12 (by decide) ?_
    refine g_iload_n B d_X10_otherOf_14 rfl rfl ?_
    refine g_iadd B d_X10_otherOf_15 ?_
    obtain ⟨h16, h⟩ := q_chk h
    refine g_iald B d_X10_otherOf_16 (by decide) (fun _ _ => rfl) h16 ?_
    refine g_goto (tgt := 52) B d_X10_otherOf_17 (by decide) ?_
    obtain rfl := q_po h
    exact g_iret B En d_X10_otherOf_52

def f_X10_tellAnew_2 (N : Nat)  (x1 : Int32)  : Nat → Int32 → q_S → Option q_S
  | 0, _, _ => none
  | n + 1, x2, σ =>
    if (6 : Int32) ≤ x2 then (some σ)
    else (if ¬ (((6 * x1) : Int32) < 0 ∨ 50 ≤ ((6 * x1) : Int32).toNatClampNeg) then if ¬ ((((6 * x1) + x2) : Int32) < 0 ∨ 50 ≤ (((6 * x1) + x2) : Int32).toNatClampNeg) then f_X10_tellAnew_2 N x1 n (x2 + 1) (q_w σ 86 (((6 * x1) + x2) : Int32).toNatClampNeg (σ.1 86 ((6 * x1) : Int32).toNatClampNeg)) else none else none)
def f_X10_tellAnew (N : Nat) (a0 : Int32) (σ : q_S) : Option q_S :=
  f_X10_tellAnew_2 N a0 N 1 σ
set_option maxRecDepth 20000 in
theorem t_X10_tellAnew_2 {Z : q_Z} {Γ : q_C} {σ' : q_S} (B : q_B Z Γ prog_12_method_18_code "WaterOthersModel" 3 1) (En : q_E Z Γ none none σ') (N : Nat)  (x1 : Int32)   : ∀ (n : Nat) (x2 : Int32) (σ : q_S), f_X10_tellAnew_2 N x1 n x2 σ = some σ' → q_G Z Γ 3 σ 2 [(0, .ref (Z.1 84)), (1, .int x1), (2, .int x2)] [] := by
  intro n
  induction n with
  | zero =>
    intro x2 σ h
    cases h
  | succ n ih =>
    intro x2 σ h
    unfold f_X10_tellAnew_2 at h
    refine g_iload_n B d_X10_tellAnew_2 rfl rfl ?_
    refine g_bipush (v := 6) B d_X10_tellAnew_3 (by decide) ?_
    refine g_icmp_ge (tgt := 34) B d_X10_tellAnew_5 (by decide) h (fun h => ?_) (fun h => ?_)
    · obtain rfl := q_po h
      exact g_vret B En d_X10_tellAnew_34
    · refine g_aload_n B d_X10_tellAnew_8 rfl rfl ?_
      refine g_get (ci := 10) (k := 1) (v := .ref (Z.1 86)) B d_X10_tellAnew_9 q_in10 rfl (by decide) rfl (by decide) w_WaterOthersModel_13 rfl rfl ?_
      refine g_bipush (v := 6) B d_X10_tellAnew_12 (by decide) ?_
      refine g_iload_n B d_X10_tellAnew_14 rfl rfl ?_
      refine g_imul B d_X10_tellAnew_15 ?_
      refine g_iload_n B d_X10_tellAnew_16 rfl rfl ?_
      refine g_iadd B d_X10_tellAnew_17 ?_
      refine g_aload_n B d_X10_tellAnew_18 rfl rfl ?_
      refine g_get (ci := 10) (k := 1) (v := .ref (Z.1 86)) B d_X10_tellAnew_19 q_in10 rfl (by decide) rfl (by decide) w_WaterOthersModel_13 rfl rfl ?_
      refine g_bipush (v := 6) B d_X10_tellAnew_22 (by decide) ?_
      refine g_iload_n B d_X10_tellAnew_24 rfl rfl ?_
      refine g_imul B d_X10_tellAnew_25 ?_
      obtain ⟨h26, h⟩ := q_chk h
      refine g_iald B d_X10_tellAnew_26 (by decide) (fun _ _ => rfl) h26 ?_
      obtain ⟨h27, h⟩ := q_chk h
      refine g_iast B d_X10_tellAnew_27 (by decide) (fun _ _ => rfl) h27 ?_
      refine g_iinc (v := (x2 + 1)) B d_X10_tellAnew_28 rfl rfl (by decide) ?_
      refine g_goto (tgt := 2) B d_X10_tellAnew_31 (by decide) ?_
      exact g_cut rfl (ih (x2 + 1) (q_w σ 86 (((6 * x1) + x2) : Int32).toNatClampNeg (σ.1 86 ((6 * x1) : Int32).toNatClampNeg)) h)
set_option maxRecDepth 20000 in
theorem t_X10_tellAnew {Z : q_Z} {l : Launch} (N : Nat) (a0 : Int32)  (σ : q_S) {σ' : q_S} (h : f_X10_tellAnew N a0 σ = some σ') : q_M Z l y_X10_tellAnew prog_12_method_18_code 3 none 1 [.ref (Z.1 84), .int a0] σ none σ' := by
  refine q_met (by decide +kernel) (Nat.le_of_ble_eq_true rfl) (fun Γ hΓ B En => ?_)
  unfold f_X10_tellAnew at h
  refine g_cut (lv' := [(0, .ref (Z.1 84)), (1, .int a0)]) rfl ?_
  refine g_iconst (v := 1) B d_X10_tellAnew_0 (by decide) ?_
  refine g_istore_n B d_X10_tellAnew_1 rfl (by decide) ?_
  exact g_cut rfl (t_X10_tellAnew_2 B En N a0 N 1 σ h)

def f_X10_moves_2 (N : Nat)  (x1 : Int32) (x2 : Int32)  : Nat → Int32 → q_S → Option q_S
  | 0, _, _ => none
  | n + 1, x3, σ =>
    if x3 ≤ 0 then (if ¬ (((6 * x1) : Int32) < 0 ∨ 50 ≤ ((6 * x1) : Int32).toNatClampNeg) then some (q_w σ 86 ((6 * x1) : Int32).toNatClampNeg x2) else none)
    else (if ¬ (((((6 * x1) + x3) - 1) : Int32) < 0 ∨ 50 ≤ ((((6 * x1) + x3) - 1) : Int32).toNatClampNeg) then if ¬ ((((6 * x1) + x3) : Int32) < 0 ∨ 50 ≤ (((6 * x1) + x3) : Int32).toNatClampNeg) then f_X10_moves_2 N x1 x2 n (x3 + (-1)) (q_w σ 86 (((6 * x1) + x3) : Int32).toNatClampNeg (σ.1 86 ((((6 * x1) + x3) - 1) : Int32).toNatClampNeg)) else none else none)
def f_X10_moves (N : Nat) (a0 : Int32) (a1 : Int32) (σ : q_S) : Option q_S :=
  f_X10_moves_2 N a0 a1 N 5 σ
set_option maxRecDepth 20000 in
theorem t_X10_moves_2 {Z : q_Z} {Γ : q_C} {σ' : q_S} (B : q_B Z Γ prog_12_method_19_code "WaterOthersModel" 4 1) (En : q_E Z Γ none none σ') (N : Nat)  (x1 : Int32) (x2 : Int32)   : ∀ (n : Nat) (x3 : Int32) (σ : q_S), f_X10_moves_2 N x1 x2 n x3 σ = some σ' → q_G Z Γ 4 σ 2 [(0, .ref (Z.1 84)), (1, .int x1), (2, .int x2), (3, .int x3)] [] := by
  intro n
  induction n with
  | zero =>
    intro x3 σ h
    cases h
  | succ n ih =>
    intro x3 σ h
    unfold f_X10_moves_2 at h
    refine g_iload_n B d_X10_moves_2 rfl rfl ?_
    refine g_if_le (tgt := 36) B d_X10_moves_3 (by decide) h (fun h => ?_) (fun h => ?_)
    · refine g_aload_n B d_X10_moves_36 rfl rfl ?_
      refine g_get (ci := 10) (k := 1) (v := .ref (Z.1 86)) B d_X10_moves_37 q_in10 rfl (by decide) rfl (by decide) w_WaterOthersModel_13 rfl rfl ?_
      refine g_bipush (v := 6) B d_X10_moves_40 (by decide) ?_
      refine g_iload_n B d_X10_moves_42 rfl rfl ?_
      refine g_imul B d_X10_moves_43 ?_
      refine g_iload_n B d_X10_moves_44 rfl rfl ?_
      obtain ⟨h45, h⟩ := q_chk h
      refine g_iast B d_X10_moves_45 (by decide) (fun _ _ => rfl) h45 ?_
      obtain rfl := q_po h
      exact g_vret B En d_X10_moves_46
    · refine g_aload_n B d_X10_moves_6 rfl rfl ?_
      refine g_get (ci := 10) (k := 1) (v := .ref (Z.1 86)) B d_X10_moves_7 q_in10 rfl (by decide) rfl (by decide) w_WaterOthersModel_13 rfl rfl ?_
      refine g_bipush (v := 6) B d_X10_moves_10 (by decide) ?_
      refine g_iload_n B d_X10_moves_12 rfl rfl ?_
      refine g_imul B d_X10_moves_13 ?_
      refine g_iload_n B d_X10_moves_14 rfl rfl ?_
      refine g_iadd B d_X10_moves_15 ?_
      refine g_aload_n B d_X10_moves_16 rfl rfl ?_
      refine g_get (ci := 10) (k := 1) (v := .ref (Z.1 86)) B d_X10_moves_17 q_in10 rfl (by decide) rfl (by decide) w_WaterOthersModel_13 rfl rfl ?_
      refine g_bipush (v := 6) B d_X10_moves_20 (by decide) ?_
      refine g_iload_n B d_X10_moves_22 rfl rfl ?_
      refine g_imul B d_X10_moves_23 ?_
      refine g_iload_n B d_X10_moves_24 rfl rfl ?_
      refine g_iadd B d_X10_moves_25 ?_
      refine g_iconst (v := 1) B d_X10_moves_26 (by decide) ?_
      refine g_isub B d_X10_moves_27 ?_
      obtain ⟨h28, h⟩ := q_chk h
      refine g_iald B d_X10_moves_28 (by decide) (fun _ _ => rfl) h28 ?_
      obtain ⟨h29, h⟩ := q_chk h
      refine g_iast B d_X10_moves_29 (by decide) (fun _ _ => rfl) h29 ?_
      refine g_iinc (v := (x3 + (-1))) B d_X10_moves_30 rfl rfl (by decide) ?_
      refine g_goto (tgt := 2) B d_X10_moves_33 (by decide) ?_
      exact g_cut rfl (ih (x3 + (-1)) (q_w σ 86 (((6 * x1) + x3) : Int32).toNatClampNeg (σ.1 86 ((((6 * x1) + x3) - 1) : Int32).toNatClampNeg)) h)
set_option maxRecDepth 20000 in
theorem t_X10_moves {Z : q_Z} {l : Launch} (N : Nat) (a0 : Int32) (a1 : Int32)  (σ : q_S) {σ' : q_S} (h : f_X10_moves N a0 a1 σ = some σ') : q_M Z l y_X10_moves prog_12_method_19_code 4 none 1 [.ref (Z.1 84), .int a0, .int a1] σ none σ' := by
  refine q_met (by decide +kernel) (Nat.le_of_ble_eq_true rfl) (fun Γ hΓ B En => ?_)
  unfold f_X10_moves at h
  refine g_cut (lv' := [(0, .ref (Z.1 84)), (1, .int a0), (2, .int a1)]) rfl ?_
  refine g_iconst (v := 5) B d_X10_moves_0 (by decide) ?_
  refine g_istore_n B d_X10_moves_1 rfl (by decide) ?_
  exact g_cut rfl (t_X10_moves_2 B En N a0 a1 N 5 σ h)

theorem w_WaterOthersModel_96 : Cond.methodLink "WaterOthersModel" 96 y_X10_otherOf ∈ q_tbl := q_mem 844 (by decide +kernel) (by decide +kernel)
theorem w_WaterOthersModel_99 : Cond.methodLink "WaterOthersModel" 99 y_X10_moves ∈ q_tbl := q_mem 836 (by decide +kernel) (by decide +kernel)
def f_X10_stepTo_120 (N : Nat)  (x1 : Int32) (x3 : Int32)  : Nat → Int32 → Int32 → q_S → Option (Int32 × q_S)
  | 0, _, _, _ => none
  | n + 1, x5, x6, σ =>
    if (6 : Int32) ≤ x6 then (if x5 = 0 then (some (4, σ))
      else ((f_X10_moves N x1 x3 σ).bind fun z194 =>
        some (0, z194)))
    else (if x5 = 0 then (f_X10_stepTo_120 N x1 x3 n 0 (x6 + 1) σ)
      else (if x6 = x1 then (f_X10_stepTo_120 N x1 x3 n 1 (x6 + 1) σ)
        else (if (f_X10_isThere x6 σ) = 0 then (f_X10_stepTo_120 N x1 x3 n 1 (x6 + 1) σ)
          else (if ¬ (((6 * x6) : Int32) < 0 ∨ 50 ≤ ((6 * x6) : Int32).toNatClampNeg) then if (σ.1 86 ((6 * x6) : Int32).toNatClampNeg) = x3 then (f_X10_stepTo_120 N x1 x3 n 0 (x6 + 1) σ)
            else ((f_X10_otherOf x6 σ).bind fun z164 =>
              if z164 = x3 then (f_X10_stepTo_120 N x1 x3 n 0 (x6 + 1) σ)
              else (f_X10_stepTo_120 N x1 x3 n 1 (x6 + 1) σ)) else none))))
def f_X10_stepTo_103 (N : Nat)  (x1 : Int32) (x3 : Int32) (σ : q_S) : Option (Int32 × q_S) :=
  if (f_X10_has (σ.1 84 4) x3) = 0 then ((f_X10_moves N x1 x3 σ).bind fun z194 =>
    some (0, z194))
  else (f_X10_stepTo_120 N x1 x3 N 1 0 σ)
def f_X10_stepTo_62 (N : Nat)  (x1 : Int32) (x3 : Int32) (t0 : Int32) (σ : q_S) : Option (Int32 × q_S) :=
  (f_X10_hasParted x1 σ).bind fun z66 =>
  if z66 = 0 then (if (σ.1 86 (48 : Int32).toNatClampNeg) = 0 then (if (f_X10_in (x3 - t0) (-(σ.1 84 5)) (σ.1 84 5)) = 0 then (some (3, σ))
      else (f_X10_stepTo_103 N x1 x3 σ))
    else (f_X10_stepTo_103 N x1 x3 σ))
  else (f_X10_stepTo_103 N x1 x3 σ)
def f_X10_stepTo (N : Nat) (a0 : Int32) (a1 : Int32) (σ : q_S) : Option (Int32 × q_S) :=
  if (f_X10_isThere a0 σ) = 0 then (some (1, σ))
  else (if ¬ (((6 * a0) : Int32) < 0 ∨ 50 ≤ ((6 * a0) : Int32).toNatClampNeg) then if (f_X10_isCell ((σ.1 86 ((6 * a0) : Int32).toNatClampNeg) + a1)) = 0 then (some (2, σ))
    else (if ¬ ((a0 : Int32) < 0 ∨ 6 ≤ (a0 : Int32).toNatClampNeg) then if (σ.1 87 (a0 : Int32).toNatClampNeg) = 0 then (f_X10_stepTo_62 N a0 ((σ.1 86 ((6 * a0) : Int32).toNatClampNeg) + a1) ((σ.1 86 ((6 * a0) : Int32).toNatClampNeg) + a1) σ)
      else (if ¬ (((((6 * a0) + (σ.1 87 (a0 : Int32).toNatClampNeg)) - 1) : Int32) < 0 ∨ 50 ≤ ((((6 * a0) + (σ.1 87 (a0 : Int32).toNatClampNeg)) - 1) : Int32).toNatClampNeg) then f_X10_stepTo_62 N a0 ((σ.1 86 ((6 * a0) : Int32).toNatClampNeg) + a1) (σ.1 86 ((((6 * a0) + (σ.1 87 (a0 : Int32).toNatClampNeg)) - 1) : Int32).toNatClampNeg) σ else none) else none) else none)
set_option maxRecDepth 20000 in
theorem t_X10_stepTo_120 {Z : q_Z} {Γ : q_C} {r : Int32} {σ' : q_S} (B : q_B Z Γ prog_12_method_20_code "WaterOthersModel" 7 3) (En : q_E Z Γ (some .int) (some (.int r)) σ') (N : Nat)  (x1 : Int32) (x3 : Int32)   : ∀ (n : Nat) (x5 : Int32) (x6 : Int32) (σ : q_S), f_X10_stepTo_120 N x1 x3 n x5 x6 σ = some (r, σ') → q_G Z Γ 7 σ 120 [(0, .ref (Z.1 84)), (1, .int x1), (3, .int x3), (5, .int x5), (6, .int x6)] [] := by
  intro n
  induction n with
  | zero =>
    intro x5 x6 σ h
    cases h
  | succ n ih =>
    intro x5 x6 σ h
    unfold f_X10_stepTo_120 at h
    refine g_iload B d_X10_stepTo_120 rfl ?_
    refine g_bipush (v := 6) B d_X10_stepTo_122 (by decide) ?_
    refine g_icmp_ge (tgt := 184) B d_X10_stepTo_124 (by decide) h (fun h => ?_) (fun h => ?_)
    · refine g_iload B d_X10_stepTo_184 rfl ?_
      refine g_if_ne (tgt := 191) B d_X10_stepTo_186 (by decide) h (fun h => ?_) (fun h => ?_)
      · refine g_aload_n B d_X10_stepTo_191 rfl rfl ?_
        refine g_iload_n B d_X10_stepTo_192 rfl rfl ?_
        refine g_iload_n B d_X10_stepTo_193 rfl rfl ?_
        obtain ⟨z194, g194, h⟩ := q_bind h
        refine g_callV (p0 := 84) (ci := 10) (As := [.int x1, .int x3]) (rest := []) B d_X10_stepTo_194 (t_X10_moves N x1 x3 σ g194) m_X10_moves w_WaterOthersModel_99 (by decide) rfl rfl rfl rfl (Nat.le_of_ble_eq_true rfl) (by omega) (by decide) ?_
        refine g_iconst (v := 0) B d_X10_stepTo_197 (by decide) ?_
        obtain ⟨rfl, rfl⟩ := q_ps h
        exact g_iret B En d_X10_stepTo_198
      · refine g_iconst (v := 4) B d_X10_stepTo_189 (by decide) ?_
        obtain ⟨rfl, rfl⟩ := q_ps h
        exact g_iret B En d_X10_stepTo_190
    · refine g_iload B d_X10_stepTo_127 rfl ?_
      refine g_if_eq (tgt := 175) B d_X10_stepTo_129 (by decide) h (fun h => ?_) (fun h => ?_)
      · refine g_iconst (v := 0) B d_X10_stepTo_175 (by decide) ?_
        refine g_istore B d_X10_stepTo_176 (by decide) ?_
        refine g_iinc (v := (x6 + 1)) B d_X10_stepTo_178 rfl rfl (by decide) ?_
        refine g_goto (tgt := 120) B d_X10_stepTo_181 (by decide) ?_
        exact g_cut rfl (ih 0 (x6 + 1) σ h)
      · refine g_iload B d_X10_stepTo_132 rfl ?_
        refine g_iload_n B d_X10_stepTo_134 rfl rfl ?_
        refine g_icmp_eq (tgt := 171) B d_X10_stepTo_135 (by decide) h (fun h => ?_) (fun h => ?_)
        · refine g_iconst (v := 1) B d_X10_stepTo_171 (by decide) ?_
          refine g_goto (tgt := 176) B d_X10_stepTo_172 (by decide) ?_
          refine g_istore B d_X10_stepTo_176 (by decide) ?_
          refine g_iinc (v := (x6 + 1)) B d_X10_stepTo_178 rfl rfl (by decide) ?_
          refine g_goto (tgt := 120) B d_X10_stepTo_181 (by decide) ?_
          exact g_cut rfl (ih 1 (x6 + 1) σ h)
        · refine g_aload_n B d_X10_stepTo_138 rfl rfl ?_
          refine g_iload B d_X10_stepTo_139 rfl ?_
          refine g_callV (p0 := 84) (ci := 10) (As := [.int x6]) (rest := []) B d_X10_stepTo_141 (t_X10_isThere x6 σ rfl) m_X10_isThere w_WaterOthersModel_77 (by decide) rfl rfl rfl rfl (Nat.le_of_ble_eq_true rfl) (by omega) (by decide) ?_
          refine g_if_eq (tgt := 171) B d_X10_stepTo_144 (by decide) h (fun h => ?_) (fun h => ?_)
          · refine g_iconst (v := 1) B d_X10_stepTo_171 (by decide) ?_
            refine g_goto (tgt := 176) B d_X10_stepTo_172 (by decide) ?_
            refine g_istore B d_X10_stepTo_176 (by decide) ?_
            refine g_iinc (v := (x6 + 1)) B d_X10_stepTo_178 rfl rfl (by decide) ?_
            refine g_goto (tgt := 120) B d_X10_stepTo_181 (by decide) ?_
            exact g_cut rfl (ih 1 (x6 + 1) σ h)
          · refine g_aload_n B d_X10_stepTo_147 rfl rfl ?_
            refine g_get (ci := 10) (k := 1) (v := .ref (Z.1 86)) B d_X10_stepTo_148 q_in10 rfl (by decide) rfl (by decide) w_WaterOthersModel_13 rfl rfl ?_
            refine g_bipush (v := 6) B d_X10_stepTo_151 (by decide) ?_
            refine g_iload B d_X10_stepTo_153 rfl ?_
            refine g_imul B d_X10_stepTo_155 ?_
            obtain ⟨h156, h⟩ := q_chk h
            refine g_iald B d_X10_stepTo_156 (by decide) (fun _ _ => rfl) h156 ?_
            refine g_iload_n B d_X10_stepTo_157 rfl rfl ?_
            refine g_icmp_eq (tgt := 175) B d_X10_stepTo_158 (by decide) h (fun h => ?_) (fun h => ?_)
            · refine g_iconst (v := 0) B d_X10_stepTo_175 (by decide) ?_
              refine g_istore B d_X10_stepTo_176 (by decide) ?_
              refine g_iinc (v := (x6 + 1)) B d_X10_stepTo_178 rfl rfl (by decide) ?_
              refine g_goto (tgt := 120) B d_X10_stepTo_181 (by decide) ?_
              exact g_cut rfl (ih 0 (x6 + 1) σ h)
            · refine g_aload_n B d_X10_stepTo_161 rfl rfl ?_
              refine g_iload B d_X10_stepTo_162 rfl ?_
              obtain ⟨z164, g164, h⟩ := q_bind h
              refine g_callV (p0 := 84) (ci := 10) (As := [.int x6]) (rest := []) B d_X10_stepTo_164 (t_X10_otherOf x6 σ g164) m_X10_otherOf w_WaterOthersModel_96 (by decide) rfl rfl rfl rfl (Nat.le_of_ble_eq_true rfl) (by omega) (by decide) ?_
              refine g_iload_n B d_X10_stepTo_167 rfl rfl ?_
              refine g_icmp_eq (tgt := 175) B d_X10_stepTo_168 (by decide) h (fun h => ?_) (fun h => ?_)
              · refine g_iconst (v := 0) B d_X10_stepTo_175 (by decide) ?_
                refine g_istore B d_X10_stepTo_176 (by decide) ?_
                refine g_iinc (v := (x6 + 1)) B d_X10_stepTo_178 rfl rfl (by decide) ?_
                refine g_goto (tgt := 120) B d_X10_stepTo_181 (by decide) ?_
                exact g_cut rfl (ih 0 (x6 + 1) σ h)
              · refine g_iconst (v := 1) B d_X10_stepTo_171 (by decide) ?_
                refine g_goto (tgt := 176) B d_X10_stepTo_172 (by decide) ?_
                refine g_istore B d_X10_stepTo_176 (by decide) ?_
                refine g_iinc (v := (x6 + 1)) B d_X10_stepTo_178 rfl rfl (by decide) ?_
                refine g_goto (tgt := 120) B d_X10_stepTo_181 (by decide) ?_
                exact g_cut rfl (ih 1 (x6 + 1) σ h)
set_option maxRecDepth 20000 in
theorem t_X10_stepTo_103 {Z : q_Z} {Γ : q_C} {r : Int32} {σ' : q_S} (B : q_B Z Γ prog_12_method_20_code "WaterOthersModel" 7 3) (En : q_E Z Γ (some .int) (some (.int r)) σ') (N : Nat)  (x1 : Int32) (x3 : Int32)  (σ : q_S)  (h : f_X10_stepTo_103 N x1 x3 σ = some (r, σ')) : q_G Z Γ 7 σ 103 [(0, .ref (Z.1 84)), (1, .int x1), (3, .int x3)] [] := by
  unfold f_X10_stepTo_103 at h
  refine g_aload_n B d_X10_stepTo_103 rfl rfl ?_
  refine g_get (ci := 10) (k := 4) B d_X10_stepTo_104 q_in10 rfl (by decide) rfl (by decide) w_WaterOthersModel_70 rfl rfl ?_
  refine g_iload_n B d_X10_stepTo_107 rfl rfl ?_
  refine g_callS (As := [.int (σ.1 84 4), .int x3]) (rest := []) B d_X10_stepTo_108 (t_X10_has (σ.1 84 4) x3 σ rfl) m_X10_has w_WaterOthersModel_62 rfl rfl (Nat.le_of_ble_eq_true rfl) (by omega) (by decide) ?_
  refine g_if_eq (tgt := 191) B d_X10_stepTo_111 (by decide) h (fun h => ?_) (fun h => ?_)
  · refine g_aload_n B d_X10_stepTo_191 rfl rfl ?_
    refine g_iload_n B d_X10_stepTo_192 rfl rfl ?_
    refine g_iload_n B d_X10_stepTo_193 rfl rfl ?_
    obtain ⟨z194, g194, h⟩ := q_bind h
    refine g_callV (p0 := 84) (ci := 10) (As := [.int x1, .int x3]) (rest := []) B d_X10_stepTo_194 (t_X10_moves N x1 x3 σ g194) m_X10_moves w_WaterOthersModel_99 (by decide) rfl rfl rfl rfl (Nat.le_of_ble_eq_true rfl) (by omega) (by decide) ?_
    refine g_iconst (v := 0) B d_X10_stepTo_197 (by decide) ?_
    obtain ⟨rfl, rfl⟩ := q_ps h
    exact g_iret B En d_X10_stepTo_198
  · refine g_iconst (v := 1) B d_X10_stepTo_114 (by decide) ?_
    refine g_istore B d_X10_stepTo_115 (by decide) ?_
    refine g_iconst (v := 0) B d_X10_stepTo_117 (by decide) ?_
    refine g_istore B d_X10_stepTo_118 (by decide) ?_
    exact g_cut rfl (t_X10_stepTo_120 B En N x1 x3 N 1 0 σ h)
set_option maxRecDepth 20000 in
theorem t_X10_stepTo_62 {Z : q_Z} {Γ : q_C} {r : Int32} {σ' : q_S} (B : q_B Z Γ prog_12_method_20_code "WaterOthersModel" 7 3) (En : q_E Z Γ (some .int) (some (.int r)) σ') (N : Nat)  (x1 : Int32) (x3 : Int32) (t0 : Int32)  (σ : q_S)  (h : f_X10_stepTo_62 N x1 x3 t0 σ = some (r, σ')) : q_G Z Γ 7 σ 62 [(0, .ref (Z.1 84)), (1, .int x1), (3, .int x3)] [.int t0] := by
  unfold f_X10_stepTo_62 at h
  refine g_istore B d_X10_stepTo_62 (by decide) ?_
  refine g_aload_n B d_X10_stepTo_64 rfl rfl ?_
  refine g_iload_n B d_X10_stepTo_65 rfl rfl ?_
  obtain ⟨z66, g66, h⟩ := q_bind h
  refine g_callV (p0 := 84) (ci := 10) (As := [.int x1]) (rest := []) B d_X10_stepTo_66 (t_X10_hasParted x1 σ g66) m_X10_hasParted w_WaterOthersModel_93 (by decide) rfl rfl rfl rfl (Nat.le_of_ble_eq_true rfl) (by omega) (by decide) ?_
  refine g_if_ne (tgt := 103) B d_X10_stepTo_69 (by decide) h (fun h => ?_) (fun h => ?_)
  · exact g_cut rfl (t_X10_stepTo_103 B En N x1 x3 σ h)
  · refine g_aload_n B d_X10_stepTo_72 rfl rfl ?_
    refine g_get (ci := 10) (k := 1) (v := .ref (Z.1 86)) B d_X10_stepTo_73 q_in10 rfl (by decide) rfl (by decide) w_WaterOthersModel_13 rfl rfl ?_
    refine g_bipush (v := 48) B d_X10_stepTo_76 (by decide) ?_
    refine g_iald B d_X10_stepTo_78 (by decide) (fun _ _ => rfl) (by decide) ?_
    refine g_if_ne (tgt := 103) B d_X10_stepTo_79 (by decide) h (fun h => ?_) (fun h => ?_)
    · exact g_cut rfl (t_X10_stepTo_103 B En N x1 x3 σ h)
    · refine g_iload_n B d_X10_stepTo_82 rfl rfl ?_
      refine g_iload B d_X10_stepTo_83 rfl ?_
      refine g_isub B d_X10_stepTo_85 ?_
      refine g_aload_n B d_X10_stepTo_86 rfl rfl ?_
      refine g_get (ci := 10) (k := 5) B d_X10_stepTo_87 q_in10 rfl (by decide) rfl (by decide) w_WaterOthersModel_19 rfl rfl ?_
      refine g_ineg B d_X10_stepTo_90 ?_
      refine g_aload_n B d_X10_stepTo_91 rfl rfl ?_
      refine g_get (ci := 10) (k := 5) B d_X10_stepTo_92 q_in10 rfl (by decide) rfl (by decide) w_WaterOthersModel_19 rfl rfl ?_
      refine g_callS (As := [.int (x3 - t0), .int (-(σ.1 84 5)), .int (σ.1 84 5)]) (rest := []) B d_X10_stepTo_95 (t_X10_in (x3 - t0) (-(σ.1 84 5)) (σ.1 84 5) σ rfl) m_X10_in w_WaterOthersModel_55 rfl rfl (Nat.le_of_ble_eq_true rfl) (by omega) (by decide) ?_
      refine g_if_ne (tgt := 103) B d_X10_stepTo_98 (by decide) h (fun h => ?_) (fun h => ?_)
      · exact g_cut rfl (t_X10_stepTo_103 B En N x1 x3 σ h)
      · refine g_iconst (v := 3) B d_X10_stepTo_101 (by decide) ?_
        obtain ⟨rfl, rfl⟩ := q_ps h
        exact g_iret B En d_X10_stepTo_102
set_option maxRecDepth 20000 in
theorem t_X10_stepTo {Z : q_Z} {l : Launch} (N : Nat) (a0 : Int32) (a1 : Int32)  (σ : q_S) {r : Int32} {σ' : q_S} (h : f_X10_stepTo N a0 a1 σ = some (r, σ')) : q_M Z l y_X10_stepTo prog_12_method_20_code 7 (some .int) 3 [.ref (Z.1 84), .int a0, .int a1] σ (some (.int r)) σ' := by
  refine q_met (by decide +kernel) (Nat.le_of_ble_eq_true rfl) (fun Γ hΓ B En => ?_)
  unfold f_X10_stepTo at h
  refine g_cut (lv' := [(0, .ref (Z.1 84)), (1, .int a0), (2, .int a1)]) rfl ?_
  refine g_aload_n B d_X10_stepTo_0 rfl rfl ?_
  refine g_iload_n B d_X10_stepTo_1 rfl rfl ?_
  refine g_callV (p0 := 84) (ci := 10) (As := [.int a0]) (rest := []) B d_X10_stepTo_2 (t_X10_isThere a0 σ rfl) m_X10_isThere w_WaterOthersModel_77 (by decide) rfl rfl rfl rfl (Nat.le_of_ble_eq_true rfl) (by omega) (by decide) ?_
  refine g_if_ne (tgt := 10) B d_X10_stepTo_5 (by decide) h (fun h => ?_) (fun h => ?_)
  · refine g_aload_n B d_X10_stepTo_10 rfl rfl ?_
    refine g_get (ci := 10) (k := 1) (v := .ref (Z.1 86)) B d_X10_stepTo_11 q_in10 rfl (by decide) rfl (by decide) w_WaterOthersModel_13 rfl rfl ?_
    refine g_bipush (v := 6) B d_X10_stepTo_14 (by decide) ?_
    refine g_iload_n B d_X10_stepTo_16 rfl rfl ?_
    refine g_imul B d_X10_stepTo_17 ?_
    obtain ⟨h18, h⟩ := q_chk h
    refine g_iald B d_X10_stepTo_18 (by decide) (fun _ _ => rfl) h18 ?_
    refine g_iload_n B d_X10_stepTo_19 rfl rfl ?_
    refine g_iadd B d_X10_stepTo_20 ?_
    refine g_istore_n B d_X10_stepTo_21 rfl (by decide) ?_
    refine g_iload_n B d_X10_stepTo_22 rfl rfl ?_
    refine g_callS (As := [.int ((σ.1 86 ((6 * a0) : Int32).toNatClampNeg) + a1)]) (rest := []) B d_X10_stepTo_23 (t_X10_isCell ((σ.1 86 ((6 * a0) : Int32).toNatClampNeg) + a1) σ rfl) m_X10_isCell w_WaterOthersModel_66 rfl rfl (Nat.le_of_ble_eq_true rfl) (by omega) (by decide) ?_
    refine g_if_ne (tgt := 31) B d_X10_stepTo_26 (by decide) h (fun h => ?_) (fun h => ?_)
    · refine g_aload_n B d_X10_stepTo_31 rfl rfl ?_
      refine g_get (ci := 10) (k := 3) (v := .ref (Z.1 87)) B d_X10_stepTo_32 q_in10 rfl (by decide) rfl (by decide) w_WaterOthersModel_16 rfl rfl ?_
      refine g_iload_n B d_X10_stepTo_35 rfl rfl ?_
      obtain ⟨h36, h⟩ := q_chk h
      refine g_iald B d_X10_stepTo_36 (by decide) (fun _ _ => rfl) h36 ?_
      refine g_if_ne (tgt := 44) B d_X10_stepTo_37 (by decide) h (fun h => ?_) (fun h => ?_)
      · refine g_aload_n B d_X10_stepTo_44 rfl rfl ?_
        refine g_get (ci := 10) (k := 1) (v := .ref (Z.1 86)) B d_X10_stepTo_45 q_in10 rfl (by decide) rfl (by decide) w_WaterOthersModel_13 rfl rfl ?_
        refine g_bipush (v := 6) B d_X10_stepTo_48 (by decide) ?_
        refine g_iload_n B d_X10_stepTo_50 rfl rfl ?_
        refine g_imul B d_X10_stepTo_51 ?_
        refine g_aload_n B d_X10_stepTo_52 rfl rfl ?_
        refine g_get (ci := 10) (k := 3) (v := .ref (Z.1 87)) B d_X10_stepTo_53 q_in10 rfl (by decide) rfl (by decide) w_WaterOthersModel_16 rfl rfl ?_
        refine g_iload_n B d_X10_stepTo_56 rfl rfl ?_
        refine g_iald B d_X10_stepTo_57 (by decide) (fun _ _ => rfl) h36 ?_
        refine g_iadd B d_X10_stepTo_58 ?_
        refine g_iconst (v := 1) B d_X10_stepTo_59 (by decide) ?_
        refine g_isub B d_X10_stepTo_60 ?_
        obtain ⟨h61, h⟩ := q_chk h
        refine g_iald B d_X10_stepTo_61 (by decide) (fun _ _ => rfl) h61 ?_
        exact g_cut rfl (t_X10_stepTo_62 B En N a0 ((σ.1 86 ((6 * a0) : Int32).toNatClampNeg) + a1) (σ.1 86 ((((6 * a0) + (σ.1 87 (a0 : Int32).toNatClampNeg)) - 1) : Int32).toNatClampNeg) σ h)
      · refine g_iload_n B d_X10_stepTo_40 rfl rfl ?_
        refine g_goto (tgt := 62) B d_X10_stepTo_41 (by decide) ?_
        exact g_cut rfl (t_X10_stepTo_62 B En N a0 ((σ.1 86 ((6 * a0) : Int32).toNatClampNeg) + a1) ((σ.1 86 ((6 * a0) : Int32).toNatClampNeg) + a1) σ h)
    · refine g_iconst (v := 2) B d_X10_stepTo_29 (by decide) ?_
      obtain ⟨rfl, rfl⟩ := q_ps h
      exact g_iret B En d_X10_stepTo_30
  · refine g_iconst (v := 1) B d_X10_stepTo_8 (by decide) ?_
    obtain ⟨rfl, rfl⟩ := q_ps h
    exact g_iret B En d_X10_stepTo_9

def f_X10_waits (N : Nat) (a0 : Int32) (σ : q_S) : Option (Int32 × q_S) :=
  if (f_X10_isThere a0 σ) = 0 then (some (1, σ))
  else (if ¬ (((6 * a0) : Int32) < 0 ∨ 50 ≤ ((6 * a0) : Int32).toNatClampNeg) then (f_X10_moves N a0 (σ.1 86 ((6 * a0) : Int32).toNatClampNeg) σ).bind fun z21 =>
    some (0, z21) else none)
set_option maxRecDepth 20000 in
theorem t_X10_waits {Z : q_Z} {l : Launch} (N : Nat) (a0 : Int32)  (σ : q_S) {r : Int32} {σ' : q_S} (h : f_X10_waits N a0 σ = some (r, σ')) : q_M Z l y_X10_waits prog_12_method_21_code 2 (some .int) 3 [.ref (Z.1 84), .int a0] σ (some (.int r)) σ' := by
  refine q_met (by decide +kernel) (Nat.le_of_ble_eq_true rfl) (fun Γ hΓ B En => ?_)
  unfold f_X10_waits at h
  refine g_cut (lv' := [(0, .ref (Z.1 84)), (1, .int a0)]) rfl ?_
  refine g_aload_n B d_X10_waits_0 rfl rfl ?_
  refine g_iload_n B d_X10_waits_1 rfl rfl ?_
  refine g_callV (p0 := 84) (ci := 10) (As := [.int a0]) (rest := []) B d_X10_waits_2 (t_X10_isThere a0 σ rfl) m_X10_isThere w_WaterOthersModel_77 (by decide) rfl rfl rfl rfl (Nat.le_of_ble_eq_true rfl) (by omega) (by decide) ?_
  refine g_if_ne (tgt := 10) B d_X10_waits_5 (by decide) h (fun h => ?_) (fun h => ?_)
  · refine g_aload_n B d_X10_waits_10 rfl rfl ?_
    refine g_iload_n B d_X10_waits_11 rfl rfl ?_
    refine g_aload_n B d_X10_waits_12 rfl rfl ?_
    refine g_get (ci := 10) (k := 1) (v := .ref (Z.1 86)) B d_X10_waits_13 q_in10 rfl (by decide) rfl (by decide) w_WaterOthersModel_13 rfl rfl ?_
    refine g_bipush (v := 6) B d_X10_waits_16 (by decide) ?_
    refine g_iload_n B d_X10_waits_18 rfl rfl ?_
    refine g_imul B d_X10_waits_19 ?_
    obtain ⟨h20, h⟩ := q_chk h
    refine g_iald B d_X10_waits_20 (by decide) (fun _ _ => rfl) h20 ?_
    obtain ⟨z21, g21, h⟩ := q_bind h
    refine g_callV (p0 := 84) (ci := 10) (As := [.int a0, .int (σ.1 86 ((6 * a0) : Int32).toNatClampNeg)]) (rest := []) B d_X10_waits_21 (t_X10_moves N a0 (σ.1 86 ((6 * a0) : Int32).toNatClampNeg) σ g21) m_X10_moves w_WaterOthersModel_99 (by decide) rfl rfl rfl rfl (Nat.le_of_ble_eq_true rfl) (by omega) (by decide) ?_
    refine g_iconst (v := 0) B d_X10_waits_24 (by decide) ?_
    obtain ⟨rfl, rfl⟩ := q_ps h
    exact g_iret B En d_X10_waits_25
  · refine g_iconst (v := 1) B d_X10_waits_8 (by decide) ?_
    obtain ⟨rfl, rfl⟩ := q_ps h
    exact g_iret B En d_X10_waits_9

theorem w_WaterOthersModel_103 : Cond.methodLink "WaterOthersModel" 103 y_X10_tellAnew ∈ q_tbl := q_mem 820 (by decide +kernel) (by decide +kernel)
def f_X10_stone_43 (N : Nat)  (x1 : Int32) (x2 : Int32) (σ : q_S) : Option (Int32 × q_S) :=
  (f_X10_hasParted x1 σ).bind fun z45 =>
  if z45 = 0 then (if ¬ (((36 + x1) : Int32) < 0 ∨ 50 ≤ ((36 + x1) : Int32).toNatClampNeg) then if ¬ (((42 + x1) : Int32) < 0 ∨ 50 ≤ ((42 + x1) : Int32).toNatClampNeg) then some (0, (q_w (q_w σ 86 ((36 + x1) : Int32).toNatClampNeg x2) 86 ((42 + x1) : Int32).toNatClampNeg 1)) else none else none)
  else (if ¬ (((36 + x1) : Int32) < 0 ∨ 50 ≤ ((36 + x1) : Int32).toNatClampNeg) then (f_X10_tellAnew N x1 (q_w σ 86 ((36 + x1) : Int32).toNatClampNeg (-6))).bind fun z64 =>
    some (0, z64) else none)
def f_X10_stone (N : Nat) (a0 : Int32) (σ : q_S) : Option (Int32 × q_S) :=
  if (f_X10_isThere a0 σ) = 0 then (some (1, σ))
  else ((f_X10_otherOf a0 σ).bind fun z12 =>
    if z12 < 0 then (some (5, σ))
    else ((f_X10_hasParted a0 σ).bind fun z22 =>
      if z22 = 0 then (f_X10_stone_43 N a0 z12 σ)
      else (if ¬ (((6 * a0) : Int32) < 0 ∨ 50 ≤ ((6 * a0) : Int32).toNatClampNeg) then if z12 = (σ.1 86 ((6 * a0) : Int32).toNatClampNeg) then (f_X10_stone_43 N a0 z12 σ)
        else (some (5, σ)) else none)))
set_option maxRecDepth 20000 in
theorem t_X10_stone_43 {Z : q_Z} {Γ : q_C} {r : Int32} {σ' : q_S} (B : q_B Z Γ prog_12_method_22_code "WaterOthersModel" 3 3) (En : q_E Z Γ (some .int) (some (.int r)) σ') (N : Nat)  (x1 : Int32) (x2 : Int32)  (σ : q_S)  (h : f_X10_stone_43 N x1 x2 σ = some (r, σ')) : q_G Z Γ 3 σ 43 [(0, .ref (Z.1 84)), (1, .int x1), (2, .int x2)] [] := by
  unfold f_X10_stone_43 at h
  refine g_aload_n B d_X10_stone_43 rfl rfl ?_
  refine g_iload_n B d_X10_stone_44 rfl rfl ?_
  obtain ⟨z45, g45, h⟩ := q_bind h
  refine g_callV (p0 := 84) (ci := 10) (As := [.int x1]) (rest := []) B d_X10_stone_45 (t_X10_hasParted x1 σ g45) m_X10_hasParted w_WaterOthersModel_93 (by decide) rfl rfl rfl rfl (Nat.le_of_ble_eq_true rfl) (by omega) (by decide) ?_
  refine g_if_eq (tgt := 70) B d_X10_stone_48 (by decide) h (fun h => ?_) (fun h => ?_)
  · refine g_aload_n B d_X10_stone_70 rfl rfl ?_
    refine g_get (ci := 10) (k := 1) (v := .ref (Z.1 86)) B d_X10_stone_71 q_in10 rfl (by decide) rfl (by decide) w_WaterOthersModel_13 rfl rfl ?_
    refine g_bipush (v := 36) B d_X10_stone_74 (by decide) ?_
    refine g_iload_n B d_X10_stone_76 rfl rfl ?_
    refine g_iadd B d_X10_stone_77 ?_
    refine g_iload_n B d_X10_stone_78 rfl rfl ?_
    obtain ⟨h79, h⟩ := q_chk h
    refine g_iast B d_X10_stone_79 (by decide) (fun _ _ => rfl) h79 ?_
    refine g_aload_n B d_X10_stone_80 rfl rfl ?_
    refine g_get (ci := 10) (k := 1) (v := .ref (Z.1 86)) B d_X10_stone_81 q_in10 rfl (by decide) rfl (by decide) w_WaterOthersModel_13 rfl rfl ?_
    refine g_bipush (v := 42) B d_X10_stone_84 (by decide) ?_
    refine g_iload_n B d_X10_stone_86 rfl rfl ?_
    refine g_iadd B d_X10_stone_87 ?_
    refine g_iconst (v := 1) B d_X10_stone_88 (by decide) ?_
    obtain ⟨h89, h⟩ := q_chk h
    refine g_iast B d_X10_stone_89 (by decide) (fun _ _ => rfl) h89 ?_
    refine g_iconst (v := 0) B d_X10_stone_90 (by decide) ?_
    obtain ⟨rfl, rfl⟩ := q_ps h
    exact g_iret B En d_X10_stone_91
  · refine g_aload_n B d_X10_stone_51 rfl rfl ?_
    refine g_get (ci := 10) (k := 1) (v := .ref (Z.1 86)) B d_X10_stone_52 q_in10 rfl (by decide) rfl (by decide) w_WaterOthersModel_13 rfl rfl ?_
    refine g_bipush (v := 36) B d_X10_stone_55 (by decide) ?_
    refine g_iload_n B d_X10_stone_57 rfl rfl ?_
    refine g_iadd B d_X10_stone_58 ?_
    refine g_bipush (v := (-6)) B d_X10_stone_59 (by decide) ?_
    obtain ⟨h61, h⟩ := q_chk h
    refine g_iast B d_X10_stone_61 (by decide) (fun _ _ => rfl) h61 ?_
    refine g_aload_n B d_X10_stone_62 rfl rfl ?_
    refine g_iload_n B d_X10_stone_63 rfl rfl ?_
    obtain ⟨z64, g64, h⟩ := q_bind h
    refine g_callV (p0 := 84) (ci := 10) (As := [.int x1]) (rest := []) B d_X10_stone_64 (t_X10_tellAnew N x1 (q_w σ 86 ((36 + x1) : Int32).toNatClampNeg (-6)) g64) m_X10_tellAnew w_WaterOthersModel_103 (by decide) rfl rfl rfl rfl (Nat.le_of_ble_eq_true rfl) (by omega) (by decide) ?_
    refine g_goto (tgt := 90) B d_X10_stone_67 (by decide) ?_
    refine g_iconst (v := 0) B d_X10_stone_90 (by decide) ?_
    obtain ⟨rfl, rfl⟩ := q_ps h
    exact g_iret B En d_X10_stone_91
set_option maxRecDepth 20000 in
theorem t_X10_stone {Z : q_Z} {l : Launch} (N : Nat) (a0 : Int32)  (σ : q_S) {r : Int32} {σ' : q_S} (h : f_X10_stone N a0 σ = some (r, σ')) : q_M Z l y_X10_stone prog_12_method_22_code 3 (some .int) 3 [.ref (Z.1 84), .int a0] σ (some (.int r)) σ' := by
  refine q_met (by decide +kernel) (Nat.le_of_ble_eq_true rfl) (fun Γ hΓ B En => ?_)
  unfold f_X10_stone at h
  refine g_cut (lv' := [(0, .ref (Z.1 84)), (1, .int a0)]) rfl ?_
  refine g_aload_n B d_X10_stone_0 rfl rfl ?_
  refine g_iload_n B d_X10_stone_1 rfl rfl ?_
  refine g_callV (p0 := 84) (ci := 10) (As := [.int a0]) (rest := []) B d_X10_stone_2 (t_X10_isThere a0 σ rfl) m_X10_isThere w_WaterOthersModel_77 (by decide) rfl rfl rfl rfl (Nat.le_of_ble_eq_true rfl) (by omega) (by decide) ?_
  refine g_if_ne (tgt := 10) B d_X10_stone_5 (by decide) h (fun h => ?_) (fun h => ?_)
  · refine g_aload_n B d_X10_stone_10 rfl rfl ?_
    refine g_iload_n B d_X10_stone_11 rfl rfl ?_
    obtain ⟨z12, g12, h⟩ := q_bind h
    refine g_callV (p0 := 84) (ci := 10) (As := [.int a0]) (rest := []) B d_X10_stone_12 (t_X10_otherOf a0 σ g12) m_X10_otherOf w_WaterOthersModel_96 (by decide) rfl rfl rfl rfl (Nat.le_of_ble_eq_true rfl) (by omega) (by decide) ?_
    refine g_istore_n B d_X10_stone_15 rfl (by decide) ?_
    refine g_iload_n B d_X10_stone_16 rfl rfl ?_
    refine g_if_lt (tgt := 41) B d_X10_stone_17 (by decide) h (fun h => ?_) (fun h => ?_)
    · refine g_iconst (v := 5) B d_X10_stone_41 (by decide) ?_
      obtain ⟨rfl, rfl⟩ := q_ps h
      exact g_iret B En d_X10_stone_42
    · refine g_aload_n B d_X10_stone_20 rfl rfl ?_
      refine g_iload_n B d_X10_stone_21 rfl rfl ?_
      obtain ⟨z22, g22, h⟩ := q_bind h
      refine g_callV (p0 := 84) (ci := 10) (As := [.int a0]) (rest := []) B d_X10_stone_22 (t_X10_hasParted a0 σ g22) m_X10_hasParted w_WaterOthersModel_93 (by decide) rfl rfl rfl rfl (Nat.le_of_ble_eq_true rfl) (by omega) (by decide) ?_
      refine g_if_eq (tgt := 43) B d_X10_stone_25 (by decide) h (fun h => ?_) (fun h => ?_)
      · exact g_cut rfl (t_X10_stone_43 B En N a0 z12 σ h)
      · refine g_iload_n B d_X10_stone_28 rfl rfl ?_
        refine g_aload_n B d_X10_stone_29 rfl rfl ?_
        refine g_get (ci := 10) (k := 1) (v := .ref (Z.1 86)) B d_X10_stone_30 q_in10 rfl (by decide) rfl (by decide) w_WaterOthersModel_13 rfl rfl ?_
        refine g_bipush (v := 6) B d_X10_stone_33 (by decide) ?_
        refine g_iload_n B d_X10_stone_35 rfl rfl ?_
        refine g_imul B d_X10_stone_36 ?_
        obtain ⟨h37, h⟩ := q_chk h
        refine g_iald B d_X10_stone_37 (by decide) (fun _ _ => rfl) h37 ?_
        refine g_icmp_eq (tgt := 43) B d_X10_stone_38 (by decide) h (fun h => ?_) (fun h => ?_)
        · exact g_cut rfl (t_X10_stone_43 B En N a0 z12 σ h)
        · refine g_iconst (v := 5) B d_X10_stone_41 (by decide) ?_
          obtain ⟨rfl, rfl⟩ := q_ps h
          exact g_iret B En d_X10_stone_42
  · refine g_iconst (v := 1) B d_X10_stone_8 (by decide) ?_
    obtain ⟨rfl, rfl⟩ := q_ps h
    exact g_iret B En d_X10_stone_9

def f_X10_blow_18 (N : Nat)    : Nat → Int32 → q_S → Option q_S
  | 0, _, _ => none
  | n + 1, x1, σ =>
    if (6 : Int32) ≤ x1 then (some σ)
    else (if (f_X10_isThere x1 σ) = 0 then (f_X10_blow_18 N n (x1 + 1) σ)
      else ((f_X10_hasParted x1 σ).bind fun z34 =>
        if z34 = 0 then ((f_X10_tellAnew N x1 σ).bind fun z42 =>
          f_X10_blow_18 N n (x1 + 1) z42)
        else (f_X10_blow_18 N n (x1 + 1) σ)))
def f_X10_blow (N : Nat)  (σ : q_S) : Option q_S :=
  f_X10_blow_18 N N 0 (q_w σ 86 (48 : Int32).toNatClampNeg (1 - (σ.1 86 (48 : Int32).toNatClampNeg)))
set_option maxRecDepth 20000 in
theorem t_X10_blow_18 {Z : q_Z} {Γ : q_C} {σ' : q_S} (B : q_B Z Γ prog_12_method_23_code "WaterOthersModel" 2 3) (En : q_E Z Γ none none σ') (N : Nat)     : ∀ (n : Nat) (x1 : Int32) (σ : q_S), f_X10_blow_18 N n x1 σ = some σ' → q_G Z Γ 2 σ 18 [(0, .ref (Z.1 84)), (1, .int x1)] [] := by
  intro n
  induction n with
  | zero =>
    intro x1 σ h
    cases h
  | succ n ih =>
    intro x1 σ h
    unfold f_X10_blow_18 at h
    refine g_iload_n B d_X10_blow_18 rfl rfl ?_
    refine g_bipush (v := 6) B d_X10_blow_19 (by decide) ?_
    refine g_icmp_ge (tgt := 51) B d_X10_blow_21 (by decide) h (fun h => ?_) (fun h => ?_)
    · obtain rfl := q_po h
      exact g_vret B En d_X10_blow_51
    · refine g_aload_n B d_X10_blow_24 rfl rfl ?_
      refine g_iload_n B d_X10_blow_25 rfl rfl ?_
      refine g_callV (p0 := 84) (ci := 10) (As := [.int x1]) (rest := []) B d_X10_blow_26 (t_X10_isThere x1 σ rfl) m_X10_isThere w_WaterOthersModel_77 (by decide) rfl rfl rfl rfl (Nat.le_of_ble_eq_true rfl) (by omega) (by decide) ?_
      refine g_if_eq (tgt := 45) B d_X10_blow_29 (by decide) h (fun h => ?_) (fun h => ?_)
      · refine g_iinc (v := (x1 + 1)) B d_X10_blow_45 rfl rfl (by decide) ?_
        refine g_goto (tgt := 18) B d_X10_blow_48 (by decide) ?_
        exact g_cut rfl (ih (x1 + 1) σ h)
      · refine g_aload_n B d_X10_blow_32 rfl rfl ?_
        refine g_iload_n B d_X10_blow_33 rfl rfl ?_
        obtain ⟨z34, g34, h⟩ := q_bind h
        refine g_callV (p0 := 84) (ci := 10) (As := [.int x1]) (rest := []) B d_X10_blow_34 (t_X10_hasParted x1 σ g34) m_X10_hasParted w_WaterOthersModel_93 (by decide) rfl rfl rfl rfl (Nat.le_of_ble_eq_true rfl) (by omega) (by decide) ?_
        refine g_if_ne (tgt := 45) B d_X10_blow_37 (by decide) h (fun h => ?_) (fun h => ?_)
        · refine g_iinc (v := (x1 + 1)) B d_X10_blow_45 rfl rfl (by decide) ?_
          refine g_goto (tgt := 18) B d_X10_blow_48 (by decide) ?_
          exact g_cut rfl (ih (x1 + 1) σ h)
        · refine g_aload_n B d_X10_blow_40 rfl rfl ?_
          refine g_iload_n B d_X10_blow_41 rfl rfl ?_
          obtain ⟨z42, g42, h⟩ := q_bind h
          refine g_callV (p0 := 84) (ci := 10) (As := [.int x1]) (rest := []) B d_X10_blow_42 (t_X10_tellAnew N x1 σ g42) m_X10_tellAnew w_WaterOthersModel_103 (by decide) rfl rfl rfl rfl (Nat.le_of_ble_eq_true rfl) (by omega) (by decide) ?_
          refine g_iinc (v := (x1 + 1)) B d_X10_blow_45 rfl rfl (by decide) ?_
          refine g_goto (tgt := 18) B d_X10_blow_48 (by decide) ?_
          exact g_cut rfl (ih (x1 + 1) z42 h)
set_option maxRecDepth 20000 in
theorem t_X10_blow {Z : q_Z} {l : Launch} (N : Nat)   (σ : q_S) {σ' : q_S} (h : f_X10_blow N σ = some σ') : q_M Z l y_X10_blow prog_12_method_23_code 2 none 3 [.ref (Z.1 84)] σ none σ' := by
  refine q_met (by decide +kernel) (Nat.le_of_ble_eq_true rfl) (fun Γ hΓ B En => ?_)
  unfold f_X10_blow at h
  refine g_cut (lv' := [(0, .ref (Z.1 84))]) rfl ?_
  refine g_aload_n B d_X10_blow_0 rfl rfl ?_
  refine g_get (ci := 10) (k := 1) (v := .ref (Z.1 86)) B d_X10_blow_1 q_in10 rfl (by decide) rfl (by decide) w_WaterOthersModel_13 rfl rfl ?_
  refine g_bipush (v := 48) B d_X10_blow_4 (by decide) ?_
  refine g_iconst (v := 1) B d_X10_blow_6 (by decide) ?_
  refine g_aload_n B d_X10_blow_7 rfl rfl ?_
  refine g_get (ci := 10) (k := 1) (v := .ref (Z.1 86)) B d_X10_blow_8 q_in10 rfl (by decide) rfl (by decide) w_WaterOthersModel_13 rfl rfl ?_
  refine g_bipush (v := 48) B d_X10_blow_11 (by decide) ?_
  refine g_iald B d_X10_blow_13 (by decide) (fun _ _ => rfl) (by decide) ?_
  refine g_isub B d_X10_blow_14 ?_
  refine g_iast B d_X10_blow_15 (by decide) (fun _ _ => rfl) (by decide) ?_
  refine g_iconst (v := 0) B d_X10_blow_16 (by decide) ?_
  refine g_istore_n B d_X10_blow_17 rfl (by decide) ?_
  exact g_cut rfl (t_X10_blow_18 B En N N 0 (q_w σ 86 (48 : Int32).toNatClampNeg (1 - (σ.1 86 (48 : Int32).toNatClampNeg))) h)

def f_X10_beat_110 (N : Nat) (k29 : Int32 → q_S → Option (Int32 × q_S)) (x1 : Int32) (x2 : Int32) (σ : q_S) : Option (Int32 × q_S) :=
  if ¬ (((36 + x1) : Int32) < 0 ∨ 50 ≤ ((36 + x1) : Int32).toNatClampNeg) then k29 (x1 + 1) (q_w σ 86 ((36 + x1) : Int32).toNatClampNeg ((σ.1 86 ((36 + x1) : Int32).toNatClampNeg) + x2)) else none
def f_X10_beat_69 (N : Nat) (k29 : Int32 → q_S → Option (Int32 × q_S)) (x1 : Int32) (t0 : Int32) (σ : q_S) : Option (Int32 × q_S) :=
  if ¬ (((36 + x1) : Int32) < 0 ∨ 50 ≤ ((36 + x1) : Int32).toNatClampNeg) then if (f_X10_isCell ((σ.1 86 ((36 + x1) : Int32).toNatClampNeg) + t0)) = 0 then (if ¬ (((42 + x1) : Int32) < 0 ∨ 50 ≤ ((42 + x1) : Int32).toNatClampNeg) then f_X10_beat_110 N (k29) x1 (-t0) (q_w σ 86 ((42 + x1) : Int32).toNatClampNeg (1 - (σ.1 86 ((42 + x1) : Int32).toNatClampNeg))) else none)
  else (f_X10_beat_110 N (k29) x1 t0 σ) else none
def f_X10_beat_29 (N : Nat)    : Nat → Int32 → q_S → Option (Int32 × q_S)
  | 0, _, _ => none
  | n + 1, x1, σ =>
    if (6 : Int32) ≤ x1 then (some (0, σ))
    else (if (f_X10_isThere x1 σ) = 0 then (f_X10_beat_29 N n (x1 + 1) σ)
      else ((f_X10_hasParted x1 σ).bind fun z45 =>
        if z45 = 0 then (f_X10_beat_29 N n (x1 + 1) σ)
        else (if ¬ (((42 + x1) : Int32) < 0 ∨ 50 ≤ ((42 + x1) : Int32).toNatClampNeg) then if (σ.1 86 ((42 + x1) : Int32).toNatClampNeg) = 1 then (f_X10_beat_69 N (fun x1 σ => f_X10_beat_29 N n x1 σ) x1 1 σ)
          else (f_X10_beat_69 N (fun x1 σ => f_X10_beat_29 N n x1 σ) x1 (-1) σ) else none)))
def f_X10_beat (N : Nat)  (σ : q_S) : Option (Int32 × q_S) :=
  if (σ.1 86 (49 : Int32).toNatClampNeg) = 999 then (some (6, σ))
  else (f_X10_beat_29 N N 0 (q_w σ 86 (49 : Int32).toNatClampNeg ((σ.1 86 (49 : Int32).toNatClampNeg) + 1)))
set_option maxRecDepth 20000 in
theorem t_X10_beat_110 {Z : q_Z} {Γ : q_C} {r : Int32} {σ' : q_S} (B : q_B Z Γ prog_12_method_24_code "WaterOthersModel" 3 3) (En : q_E Z Γ (some .int) (some (.int r)) σ') (N : Nat) (k29 : Int32 → q_S → Option (Int32 × q_S)) (x1 : Int32) (x2 : Int32) (K29 : ∀ (x1 : Int32) (σ : q_S), k29 x1 σ = some (r, σ') → q_G Z Γ 3 σ 29 [(0, .ref (Z.1 84)), (1, .int x1)] []) (σ : q_S)  (h : f_X10_beat_110 N k29 x1 x2 σ = some (r, σ')) : q_G Z Γ 3 σ 110 [(0, .ref (Z.1 84)), (1, .int x1), (2, .int x2)] [] := by
  unfold f_X10_beat_110 at h
  refine g_aload_n B d_X10_beat_110 rfl rfl ?_
  refine g_get (ci := 10) (k := 1) (v := .ref (Z.1 86)) B d_X10_beat_111 q_in10 rfl (by decide) rfl (by decide) w_WaterOthersModel_13 rfl rfl ?_
  refine g_bipush (v := 36) B d_X10_beat_114 (by decide) ?_
  refine g_iload_n B d_X10_beat_116 rfl rfl ?_
  refine g_iadd B d_X10_beat_117 ?_
  refine g_dup2 B d_X10_beat_118 rfl rfl ?_
  obtain ⟨h119, h⟩ := q_chk h
  refine g_iald B d_X10_beat_119 (by decide) (fun _ _ => rfl) h119 ?_
  refine g_iload_n B d_X10_beat_120 rfl rfl ?_
  refine g_iadd B d_X10_beat_121 ?_
  refine g_iast B d_X10_beat_122 (by decide) (fun _ _ => rfl) h119 ?_
  refine g_iinc (v := (x1 + 1)) B d_X10_beat_123 rfl rfl (by decide) ?_
  refine g_goto (tgt := 29) B d_X10_beat_126 (by decide) ?_
  exact g_cut rfl (K29 (x1 + 1) (q_w σ 86 ((36 + x1) : Int32).toNatClampNeg ((σ.1 86 ((36 + x1) : Int32).toNatClampNeg) + x2)) h)
set_option maxRecDepth 20000 in
theorem t_X10_beat_69 {Z : q_Z} {Γ : q_C} {r : Int32} {σ' : q_S} (B : q_B Z Γ prog_12_method_24_code "WaterOthersModel" 3 3) (En : q_E Z Γ (some .int) (some (.int r)) σ') (N : Nat) (k29 : Int32 → q_S → Option (Int32 × q_S)) (x1 : Int32) (t0 : Int32) (K29 : ∀ (x1 : Int32) (σ : q_S), k29 x1 σ = some (r, σ') → q_G Z Γ 3 σ 29 [(0, .ref (Z.1 84)), (1, .int x1)] []) (σ : q_S)  (h : f_X10_beat_69 N k29 x1 t0 σ = some (r, σ')) : q_G Z Γ 3 σ 69 [(0, .ref (Z.1 84)), (1, .int x1)] [.int t0] := by
  unfold f_X10_beat_69 at h
  refine g_istore_n B d_X10_beat_69 rfl (by decide) ?_
  refine g_aload_n B d_X10_beat_70 rfl rfl ?_
  refine g_get (ci := 10) (k := 1) (v := .ref (Z.1 86)) B d_X10_beat_71 q_in10 rfl (by decide) rfl (by decide) w_WaterOthersModel_13 rfl rfl ?_
  refine g_bipush (v := 36) B d_X10_beat_74 (by decide) ?_
  refine g_iload_n B d_X10_beat_76 rfl rfl ?_
  refine g_iadd B d_X10_beat_77 ?_
  obtain ⟨h78, h⟩ := q_chk h
  refine g_iald B d_X10_beat_78 (by decide) (fun _ _ => rfl) h78 ?_
  refine g_iload_n B d_X10_beat_79 rfl rfl ?_
  refine g_iadd B d_X10_beat_80 ?_
  refine g_callS (As := [.int ((σ.1 86 ((36 + x1) : Int32).toNatClampNeg) + t0)]) (rest := []) B d_X10_beat_81 (t_X10_isCell ((σ.1 86 ((36 + x1) : Int32).toNatClampNeg) + t0) σ rfl) m_X10_isCell w_WaterOthersModel_66 rfl rfl (Nat.le_of_ble_eq_true rfl) (by omega) (by decide) ?_
  refine g_if_ne (tgt := 110) B d_X10_beat_84 (by decide) h (fun h => ?_) (fun h => ?_)
  · exact g_cut rfl (t_X10_beat_110 B En N (k29) x1 t0 (K29) σ h)
  · refine g_iload_n B d_X10_beat_87 rfl rfl ?_
    refine g_ineg B d_X10_beat_88 ?_
    refine g_istore_n B d_X10_beat_89 rfl (by decide) ?_
    refine g_aload_n B d_X10_beat_90 rfl rfl ?_
    refine g_get (ci := 10) (k := 1) (v := .ref (Z.1 86)) B d_X10_beat_91 q_in10 rfl (by decide) rfl (by decide) w_WaterOthersModel_13 rfl rfl ?_
    refine g_bipush (v := 42) B d_X10_beat_94 (by decide) ?_
    refine g_iload_n B d_X10_beat_96 rfl rfl ?_
    refine g_iadd B d_X10_beat_97 ?_
    refine g_iconst (v := 1) B d_X10_beat_98 (by decide) ?_
    refine g_aload_n B d_X10_beat_99 rfl rfl ?_
    refine g_get (ci := 10) (k := 1) (v := .ref (Z.1 86)) B d_X10_beat_100 q_in10 rfl (by decide) rfl (by decide) w_WaterOthersModel_13 rfl rfl ?_
    refine g_bipush (v := 42) B d_X10_beat_103 (by decide) ?_
    refine g_iload_n B d_X10_beat_105 rfl rfl ?_
    refine g_iadd B d_X10_beat_106 ?_
    obtain ⟨h107, h⟩ := q_chk h
    refine g_iald B d_X10_beat_107 (by decide) (fun _ _ => rfl) h107 ?_
    refine g_isub B d_X10_beat_108 ?_
    refine g_iast B d_X10_beat_109 (by decide) (fun _ _ => rfl) h107 ?_
    exact g_cut rfl (t_X10_beat_110 B En N (k29) x1 (-t0) (K29) (q_w σ 86 ((42 + x1) : Int32).toNatClampNeg (1 - (σ.1 86 ((42 + x1) : Int32).toNatClampNeg))) h)
set_option maxRecDepth 20000 in
theorem t_X10_beat_29 {Z : q_Z} {Γ : q_C} {r : Int32} {σ' : q_S} (B : q_B Z Γ prog_12_method_24_code "WaterOthersModel" 3 3) (En : q_E Z Γ (some .int) (some (.int r)) σ') (N : Nat)     : ∀ (n : Nat) (x1 : Int32) (σ : q_S), f_X10_beat_29 N n x1 σ = some (r, σ') → q_G Z Γ 3 σ 29 [(0, .ref (Z.1 84)), (1, .int x1)] [] := by
  intro n
  induction n with
  | zero =>
    intro x1 σ h
    cases h
  | succ n ih =>
    intro x1 σ h
    unfold f_X10_beat_29 at h
    refine g_iload_n B d_X10_beat_29 rfl rfl ?_
    refine g_bipush (v := 6) B d_X10_beat_30 (by decide) ?_
    refine g_icmp_ge (tgt := 129) B d_X10_beat_32 (by decide) h (fun h => ?_) (fun h => ?_)
    · refine g_iconst (v := 0) B d_X10_beat_129 (by decide) ?_
      obtain ⟨rfl, rfl⟩ := q_ps h
      exact g_iret B En d_X10_beat_130
    · refine g_aload_n B d_X10_beat_35 rfl rfl ?_
      refine g_iload_n B d_X10_beat_36 rfl rfl ?_
      refine g_callV (p0 := 84) (ci := 10) (As := [.int x1]) (rest := []) B d_X10_beat_37 (t_X10_isThere x1 σ rfl) m_X10_isThere w_WaterOthersModel_77 (by decide) rfl rfl rfl rfl (Nat.le_of_ble_eq_true rfl) (by omega) (by decide) ?_
      refine g_if_eq (tgt := 123) B d_X10_beat_40 (by decide) h (fun h => ?_) (fun h => ?_)
      · refine g_iinc (v := (x1 + 1)) B d_X10_beat_123 rfl rfl (by decide) ?_
        refine g_goto (tgt := 29) B d_X10_beat_126 (by decide) ?_
        exact g_cut rfl (ih (x1 + 1) σ h)
      · refine g_aload_n B d_X10_beat_43 rfl rfl ?_
        refine g_iload_n B d_X10_beat_44 rfl rfl ?_
        obtain ⟨z45, g45, h⟩ := q_bind h
        refine g_callV (p0 := 84) (ci := 10) (As := [.int x1]) (rest := []) B d_X10_beat_45 (t_X10_hasParted x1 σ g45) m_X10_hasParted w_WaterOthersModel_93 (by decide) rfl rfl rfl rfl (Nat.le_of_ble_eq_true rfl) (by omega) (by decide) ?_
        refine g_if_eq (tgt := 123) B d_X10_beat_48 (by decide) h (fun h => ?_) (fun h => ?_)
        · refine g_iinc (v := (x1 + 1)) B d_X10_beat_123 rfl rfl (by decide) ?_
          refine g_goto (tgt := 29) B d_X10_beat_126 (by decide) ?_
          exact g_cut rfl (ih (x1 + 1) σ h)
        · refine g_aload_n B d_X10_beat_51 rfl rfl ?_
          refine g_get (ci := 10) (k := 1) (v := .ref (Z.1 86)) B d_X10_beat_52 q_in10 rfl (by decide) rfl (by decide) w_WaterOthersModel_13 rfl rfl ?_
          refine g_bipush (v := 42) B d_X10_beat_55 (by decide) ?_
          refine g_iload_n B d_X10_beat_57 rfl rfl ?_
          refine g_iadd B d_X10_beat_58 ?_
          obtain ⟨h59, h⟩ := q_chk h
          refine g_iald B d_X10_beat_59 (by decide) (fun _ _ => rfl) h59 ?_
          refine g_iconst (v := 1) B d_X10_beat_60 (by decide) ?_
          refine g_icmp_ne (tgt := 68) B d_X10_beat_61 (by decide) h (fun h => ?_) (fun h => ?_)
          · refine g_iconst (v := (-1)) B d_X10_beat_68 (by decide) ?_
            exact g_cut rfl (t_X10_beat_69 B En N (fun x1 σ => f_X10_beat_29 N n x1 σ) x1 (-1) (ih) σ h)
          · refine g_iconst (v := 1) B d_X10_beat_64 (by decide) ?_
            refine g_goto (tgt := 69) B d_X10_beat_65 (by decide) ?_
            exact g_cut rfl (t_X10_beat_69 B En N (fun x1 σ => f_X10_beat_29 N n x1 σ) x1 1 (ih) σ h)
set_option maxRecDepth 20000 in
theorem t_X10_beat {Z : q_Z} {l : Launch} (N : Nat)   (σ : q_S) {r : Int32} {σ' : q_S} (h : f_X10_beat N σ = some (r, σ')) : q_M Z l y_X10_beat prog_12_method_24_code 3 (some .int) 3 [.ref (Z.1 84)] σ (some (.int r)) σ' := by
  refine q_met (by decide +kernel) (Nat.le_of_ble_eq_true rfl) (fun Γ hΓ B En => ?_)
  unfold f_X10_beat at h
  refine g_cut (lv' := [(0, .ref (Z.1 84))]) rfl ?_
  refine g_aload_n B d_X10_beat_0 rfl rfl ?_
  refine g_get (ci := 10) (k := 1) (v := .ref (Z.1 86)) B d_X10_beat_1 q_in10 rfl (by decide) rfl (by decide) w_WaterOthersModel_13 rfl rfl ?_
  refine g_bipush (v := 49) B d_X10_beat_4 (by decide) ?_
  refine g_iald B d_X10_beat_6 (by decide) (fun _ _ => rfl) (by decide) ?_
  refine g_sipush (v := 999) B d_X10_beat_7 (by decide) ?_
  refine g_icmp_ne (tgt := 16) B d_X10_beat_10 (by decide) h (fun h => ?_) (fun h => ?_)
  · refine g_aload_n B d_X10_beat_16 rfl rfl ?_
    refine g_get (ci := 10) (k := 1) (v := .ref (Z.1 86)) B d_X10_beat_17 q_in10 rfl (by decide) rfl (by decide) w_WaterOthersModel_13 rfl rfl ?_
    refine g_bipush (v := 49) B d_X10_beat_20 (by decide) ?_
    refine g_dup2 B d_X10_beat_22 rfl rfl ?_
    refine g_iald B d_X10_beat_23 (by decide) (fun _ _ => rfl) (by decide) ?_
    refine g_iconst (v := 1) B d_X10_beat_24 (by decide) ?_
    refine g_iadd B d_X10_beat_25 ?_
    refine g_iast B d_X10_beat_26 (by decide) (fun _ _ => rfl) (by decide) ?_
    refine g_iconst (v := 0) B d_X10_beat_27 (by decide) ?_
    refine g_istore_n B d_X10_beat_28 rfl (by decide) ?_
    exact g_cut rfl (t_X10_beat_29 B En N N 0 (q_w σ 86 (49 : Int32).toNatClampNeg ((σ.1 86 (49 : Int32).toNatClampNeg) + 1)) h)
  · refine g_bipush (v := 6) B d_X10_beat_13 (by decide) ?_
    obtain ⟨rfl, rfl⟩ := q_ps h
    exact g_iret B En d_X10_beat_15

theorem w_WaterOthersModel_107 : Cond.methodLink "WaterOthersModel" 107 y_X10_waits ∈ q_tbl := q_mem 832 (by decide +kernel) (by decide +kernel)
theorem w_WaterOthersModel_110 : Cond.methodLink "WaterOthersModel" 110 y_X10_stone ∈ q_tbl := q_mem 840 (by decide +kernel) (by decide +kernel)
theorem w_WaterOthersModel_113 : Cond.methodLink "WaterOthersModel" 113 y_X10_stepTo ∈ q_tbl := q_mem 848 (by decide +kernel) (by decide +kernel)
def f_X10_verb (N : Nat) (a0 : Int32) (a1 : Int32) (σ : q_S) : Option (Int32 × q_S) :=
  if a1 = 61 then ((f_X10_waits N a0 σ).bind fun z8 =>
    some (z8.1, z8.2))
  else (if a1 = 42 then ((f_X10_stone N a0 σ).bind fun z22 =>
      some (z22.1, z22.2))
    else (if a1 = 60 then ((f_X10_stepTo N a0 (-1) σ).bind fun z41 =>
        some (z41.1, z41.2))
      else ((f_X10_stepTo N a0 1 σ).bind fun z41 =>
        some (z41.1, z41.2))))
set_option maxRecDepth 20000 in
theorem t_X10_verb {Z : q_Z} {l : Launch} (N : Nat) (a0 : Int32) (a1 : Int32)  (σ : q_S) {r : Int32} {σ' : q_S} (h : f_X10_verb N a0 a1 σ = some (r, σ')) : q_M Z l y_X10_verb prog_12_method_25_code 3 (some .int) 4 [.ref (Z.1 84), .int a0, .int a1] σ (some (.int r)) σ' := by
  refine q_met (by decide +kernel) (Nat.le_of_ble_eq_true rfl) (fun Γ hΓ B En => ?_)
  unfold f_X10_verb at h
  refine g_cut (lv' := [(0, .ref (Z.1 84)), (1, .int a0), (2, .int a1)]) rfl ?_
  refine g_iload_n B d_X10_verb_0 rfl rfl ?_
  refine g_bipush (v := 61) B d_X10_verb_1 (by decide) ?_
  refine g_icmp_ne (tgt := 14) B d_X10_verb_3 (by decide) h (fun h => ?_) (fun h => ?_)
  · refine g_iload_n B d_X10_verb_14 rfl rfl ?_
    refine g_bipush (v := 42) B d_X10_verb_15 (by decide) ?_
    refine g_icmp_ne (tgt := 28) B d_X10_verb_17 (by decide) h (fun h => ?_) (fun h => ?_)
    · refine g_aload_n B d_X10_verb_28 rfl rfl ?_
      refine g_iload_n B d_X10_verb_29 rfl rfl ?_
      refine g_iload_n B d_X10_verb_30 rfl rfl ?_
      refine g_bipush (v := 60) B d_X10_verb_31 (by decide) ?_
      refine g_icmp_ne (tgt := 40) B d_X10_verb_33 (by decide) h (fun h => ?_) (fun h => ?_)
      · refine g_iconst (v := 1) B d_X10_verb_40 (by decide) ?_
        obtain ⟨z41, g41, h⟩ := q_bind h
        refine g_callV (p0 := 84) (ci := 10) (As := [.int a0, .int 1]) (rest := []) B d_X10_verb_41 (t_X10_stepTo N a0 1 σ g41) m_X10_stepTo w_WaterOthersModel_113 (by decide) rfl rfl rfl rfl (Nat.le_of_ble_eq_true rfl) (by omega) (by decide) ?_
        obtain ⟨rfl, rfl⟩ := q_ps h
        exact g_iret B En d_X10_verb_44
      · refine g_iconst (v := (-1)) B d_X10_verb_36 (by decide) ?_
        refine g_goto (tgt := 41) B d_X10_verb_37 (by decide) ?_
        obtain ⟨z41, g41, h⟩ := q_bind h
        refine g_callV (p0 := 84) (ci := 10) (As := [.int a0, .int (-1)]) (rest := []) B d_X10_verb_41 (t_X10_stepTo N a0 (-1) σ g41) m_X10_stepTo w_WaterOthersModel_113 (by decide) rfl rfl rfl rfl (Nat.le_of_ble_eq_true rfl) (by omega) (by decide) ?_
        obtain ⟨rfl, rfl⟩ := q_ps h
        exact g_iret B En d_X10_verb_44
    · refine g_aload_n B d_X10_verb_20 rfl rfl ?_
      refine g_iload_n B d_X10_verb_21 rfl rfl ?_
      obtain ⟨z22, g22, h⟩ := q_bind h
      refine g_callV (p0 := 84) (ci := 10) (As := [.int a0]) (rest := []) B d_X10_verb_22 (t_X10_stone N a0 σ g22) m_X10_stone w_WaterOthersModel_110 (by decide) rfl rfl rfl rfl (Nat.le_of_ble_eq_true rfl) (by omega) (by decide) ?_
      refine g_goto (tgt := 44) B d_X10_verb_25 (by decide) ?_
      obtain ⟨rfl, rfl⟩ := q_ps h
      exact g_iret B En d_X10_verb_44
  · refine g_aload_n B d_X10_verb_6 rfl rfl ?_
    refine g_iload_n B d_X10_verb_7 rfl rfl ?_
    obtain ⟨z8, g8, h⟩ := q_bind h
    refine g_callV (p0 := 84) (ci := 10) (As := [.int a0]) (rest := []) B d_X10_verb_8 (t_X10_waits N a0 σ g8) m_X10_waits w_WaterOthersModel_107 (by decide) rfl rfl rfl rfl (Nat.le_of_ble_eq_true rfl) (by omega) (by decide) ?_
    refine g_goto (tgt := 44) B d_X10_verb_11 (by decide) ?_
    obtain ⟨rfl, rfl⟩ := q_ps h
    exact g_iret B En d_X10_verb_44

theorem w_WaterOthersModel_117 : Cond.methodLink "WaterOthersModel" 117 y_X10_asNow ∈ q_tbl := q_mem 808 (by decide +kernel) (by decide +kernel)
theorem w_WaterOthersModel_120 : Cond.fieldLink "WaterOthersModel" 120 "WaterOthersModel" "acts" "I" ∈ q_tbl := q_mem 698 (by decide +kernel) (by decide +kernel)
theorem w_WaterOthersModel_123 : Cond.fieldLink "WaterOthersModel" 123 "WaterOthersModel" "reason" "I" ∈ q_tbl := q_mem 697 (by decide +kernel) (by decide +kernel)
theorem w_WaterOthersModel_126 : Cond.methodLink "WaterOthersModel" 126 y_X10_blow ∈ q_tbl := q_mem 812 (by decide +kernel) (by decide +kernel)
theorem w_WaterOthersModel_129 : Cond.methodLink "WaterOthersModel" 129 y_X10_beat ∈ q_tbl := q_mem 824 (by decide +kernel) (by decide +kernel)
theorem w_WaterOthersModel_132 : Cond.methodLink "WaterOthersModel" 132 y_X10_verb ∈ q_tbl := q_mem 828 (by decide +kernel) (by decide +kernel)
def f_X10_goDays_147 (N : Nat) (k11 : Int32 → q_S → Option (Int32 × q_S)) (x1 : Int32) (σ : q_S) : Option (Int32 × q_S) :=
  if (σ.1 84 12) ≤ 0 then (k11 (x1 + 1) (q_w σ 84 13 ((σ.1 84 13) + 1)))
  else (some ((σ.1 84 13), σ))
def f_X10_goDays_90 (N : Nat) (k11 : Int32 → q_S → Option (Int32 × q_S)) (x1 : Int32) (x3 : Int32) (t0 : Int32) (σ : q_S) : Option (Int32 × q_S) :=
  if ¬ ((x1 : Int32) < 0 ∨ 60 ≤ (x1 : Int32).toNatClampNeg) then (f_X10_verb N x3 (σ.1 89 (x1 : Int32).toNatClampNeg) σ).bind fun z101 =>
  if ((q_w z101.2 84 12 z101.1).1 84 12) = 0 then (if (0 : Int32) ≤ ((q_w z101.2 84 12 z101.1).1 84 10) then (f_X10_goDays_147 N (k11) x1 (q_w z101.2 84 12 z101.1))
    else (if t0 = 0 then ((f_X10_hasParted x3 (q_w z101.2 84 12 z101.1)).bind fun z128 =>
        if z128 = 0 then (f_X10_goDays_147 N (k11) x1 (q_w z101.2 84 12 z101.1))
        else (f_X10_goDays_147 N (k11) x1 (q_w (q_w (q_w z101.2 84 12 z101.1) 84 10 ((q_w z101.2 84 12 z101.1).1 84 13)) 84 11 x3)))
      else (f_X10_goDays_147 N (k11) x1 (q_w z101.2 84 12 z101.1))))
  else (f_X10_goDays_147 N (k11) x1 (q_w z101.2 84 12 z101.1)) else none
def f_X10_goDays_11 (N : Nat)    : Nat → Int32 → q_S → Option (Int32 × q_S)
  | 0, _, _ => none
  | n + 1, x1, σ =>
    if (σ.1 84 8) ≤ x1 then (some ((-6), σ))
    else (if ¬ ((x1 : Int32) < 0 ∨ 60 ≤ (x1 : Int32).toNatClampNeg) then if (σ.1 89 (x1 : Int32).toNatClampNeg) = 126 then ((f_X10_blow N (q_w σ 84 12 0)).bind fun z38 =>
        f_X10_goDays_147 N (fun x1 σ => f_X10_goDays_11 N n x1 σ) x1 z38)
      else (if (σ.1 89 (x1 : Int32).toNatClampNeg) = 46 then ((f_X10_beat N (q_w σ 84 12 0)).bind fun z52 =>
          f_X10_goDays_147 N (fun x1 σ => f_X10_goDays_11 N n x1 σ) x1 (q_w z52.2 84 12 z52.1))
        else (if (f_X10_isThere ((σ.1 89 (x1 : Int32).toNatClampNeg) - 65) (q_w σ 84 12 0)) = 0 then (f_X10_goDays_90 N (fun x1 σ => f_X10_goDays_11 N n x1 σ) (x1 + 1) ((σ.1 89 (x1 : Int32).toNatClampNeg) - 65) 0 (q_w σ 84 12 0))
          else ((f_X10_hasParted ((σ.1 89 (x1 : Int32).toNatClampNeg) - 65) (q_w σ 84 12 0)).bind fun z79 =>
            if z79 = 0 then (f_X10_goDays_90 N (fun x1 σ => f_X10_goDays_11 N n x1 σ) (x1 + 1) ((σ.1 89 (x1 : Int32).toNatClampNeg) - 65) 0 (q_w σ 84 12 0))
            else (f_X10_goDays_90 N (fun x1 σ => f_X10_goDays_11 N n x1 σ) (x1 + 1) ((σ.1 89 (x1 : Int32).toNatClampNeg) - 65) 1 (q_w σ 84 12 0))))) else none)
def f_X10_goDays (N : Nat)  (σ : q_S) : Option (Int32 × q_S) :=
  (f_X10_asNow N σ).bind fun z1 =>
  f_X10_goDays_11 N N 0 (q_w z1 84 13 0)
set_option maxRecDepth 20000 in
theorem t_X10_goDays_147 {Z : q_Z} {Γ : q_C} {r : Int32} {σ' : q_S} (B : q_B Z Γ prog_12_method_26_code "WaterOthersModel" 5 5) (En : q_E Z Γ (some .int) (some (.int r)) σ') (N : Nat) (k11 : Int32 → q_S → Option (Int32 × q_S)) (x1 : Int32) (K11 : ∀ (x1 : Int32) (σ : q_S), k11 x1 σ = some (r, σ') → q_G Z Γ 5 σ 11 [(0, .ref (Z.1 84)), (1, .int x1)] []) (σ : q_S)  (h : f_X10_goDays_147 N k11 x1 σ = some (r, σ')) : q_G Z Γ 5 σ 147 [(0, .ref (Z.1 84)), (1, .int x1)] [] := by
  unfold f_X10_goDays_147 at h
  refine g_aload_n B d_X10_goDays_147 rfl rfl ?_
  refine g_get (ci := 10) (k := 12) B d_X10_goDays_148 q_in10 rfl (by decide) rfl (by decide) w_WaterOthersModel_123 rfl rfl ?_
  refine g_if_le (tgt := 159) B d_X10_goDays_151 (by decide) h (fun h => ?_) (fun h => ?_)
  · refine g_iinc (v := (x1 + 1)) B d_X10_goDays_159 rfl rfl (by decide) ?_
    refine g_aload_n B d_X10_goDays_162 rfl rfl ?_
    refine g_dup B d_X10_goDays_163 rfl ?_
    refine g_get (ci := 10) (k := 13) B d_X10_goDays_164 q_in10 rfl (by decide) rfl (by decide) w_WaterOthersModel_120 rfl rfl ?_
    refine g_iconst (v := 1) B d_X10_goDays_167 (by decide) ?_
    refine g_iadd B d_X10_goDays_168 ?_
    refine g_put (ci := 10) (k := 13) (v := ((σ.1 84 13) + 1)) (ty := .int) B d_X10_goDays_169 q_in10 rfl q_yk10 q_nm10 (by decide) (fun _ _ => rfl) (by decide) w_WaterOthersModel_120 rfl rfl rfl rfl rfl (Nat.le_of_ble_eq_true rfl) (fun _ _ => rfl) ?_
    refine g_goto (tgt := 11) B d_X10_goDays_172 (by decide) ?_
    exact g_cut rfl (K11 (x1 + 1) (q_w σ 84 13 ((σ.1 84 13) + 1)) h)
  · refine g_aload_n B d_X10_goDays_154 rfl rfl ?_
    refine g_get (ci := 10) (k := 13) B d_X10_goDays_155 q_in10 rfl (by decide) rfl (by decide) w_WaterOthersModel_120 rfl rfl ?_
    obtain ⟨rfl, rfl⟩ := q_ps h
    exact g_iret B En d_X10_goDays_158
set_option maxRecDepth 20000 in
theorem t_X10_goDays_90 {Z : q_Z} {Γ : q_C} {r : Int32} {σ' : q_S} (B : q_B Z Γ prog_12_method_26_code "WaterOthersModel" 5 5) (En : q_E Z Γ (some .int) (some (.int r)) σ') (N : Nat) (k11 : Int32 → q_S → Option (Int32 × q_S)) (x1 : Int32) (x3 : Int32) (t0 : Int32) (K11 : ∀ (x1 : Int32) (σ : q_S), k11 x1 σ = some (r, σ') → q_G Z Γ 5 σ 11 [(0, .ref (Z.1 84)), (1, .int x1)] []) (σ : q_S)  (h : f_X10_goDays_90 N k11 x1 x3 t0 σ = some (r, σ')) : q_G Z Γ 5 σ 90 [(0, .ref (Z.1 84)), (1, .int x1), (3, .int x3)] [.int t0] := by
  unfold f_X10_goDays_90 at h
  refine g_istore B d_X10_goDays_90 (by decide) ?_
  refine g_aload_n B d_X10_goDays_92 rfl rfl ?_
  refine g_aload_n B d_X10_goDays_93 rfl rfl ?_
  refine g_iload_n B d_X10_goDays_94 rfl rfl ?_
  refine g_aload_n B d_X10_goDays_95 rfl rfl ?_
  refine g_get (ci := 10) (k := 9) (v := .ref (Z.1 89)) B d_X10_goDays_96 q_in10 rfl (by decide) rfl (by decide) w_WaterOthersModel_26 rfl rfl ?_
  refine g_iload_n B d_X10_goDays_99 rfl rfl ?_
  obtain ⟨h100, h⟩ := q_chk h
  refine g_iald B d_X10_goDays_100 (by decide) (fun _ _ => rfl) h100 ?_
  obtain ⟨z101, g101, h⟩ := q_bind h
  refine g_callV (p0 := 84) (ci := 10) (As := [.int x3, .int (σ.1 89 (x1 : Int32).toNatClampNeg)]) (rest := [.ref (Z.1 84)]) B d_X10_goDays_101 (t_X10_verb N x3 (σ.1 89 (x1 : Int32).toNatClampNeg) σ g101) m_X10_verb w_WaterOthersModel_132 (by decide) rfl rfl rfl rfl (Nat.le_of_ble_eq_true rfl) (by omega) (by decide) ?_
  refine g_put (ci := 10) (k := 12) (v := z101.1) (ty := .int) B d_X10_goDays_104 q_in10 rfl q_yk10 q_nm10 (by decide) (fun _ _ => rfl) (by decide) w_WaterOthersModel_123 rfl rfl rfl rfl rfl (Nat.le_of_ble_eq_true rfl) (fun _ _ => rfl) ?_
  refine g_aload_n B d_X10_goDays_107 rfl rfl ?_
  refine g_get (ci := 10) (k := 12) B d_X10_goDays_108 q_in10 rfl (by decide) rfl (by decide) w_WaterOthersModel_123 rfl rfl ?_
  refine g_if_ne (tgt := 147) B d_X10_goDays_111 (by decide) h (fun h => ?_) (fun h => ?_)
  · exact g_cut rfl (t_X10_goDays_147 B En N (k11) x1 (K11) (q_w z101.2 84 12 z101.1) h)
  · refine g_aload_n B d_X10_goDays_114 rfl rfl ?_
    refine g_get (ci := 10) (k := 10) B d_X10_goDays_115 q_in10 rfl (by decide) rfl (by decide) w_WaterOthersModel_87 rfl rfl ?_
    refine g_if_ge (tgt := 147) B d_X10_goDays_118 (by decide) h (fun h => ?_) (fun h => ?_)
    · exact g_cut rfl (t_X10_goDays_147 B En N (k11) x1 (K11) (q_w z101.2 84 12 z101.1) h)
    · refine g_iload B d_X10_goDays_121 rfl ?_
      refine g_if_ne (tgt := 147) B d_X10_goDays_123 (by decide) h (fun h => ?_) (fun h => ?_)
      · exact g_cut rfl (t_X10_goDays_147 B En N (k11) x1 (K11) (q_w z101.2 84 12 z101.1) h)
      · refine g_aload_n B d_X10_goDays_126 rfl rfl ?_
        refine g_iload_n B d_X10_goDays_127 rfl rfl ?_
        obtain ⟨z128, g128, h⟩ := q_bind h
        refine g_callV (p0 := 84) (ci := 10) (As := [.int x3]) (rest := []) B d_X10_goDays_128 (t_X10_hasParted x3 (q_w z101.2 84 12 z101.1) g128) m_X10_hasParted w_WaterOthersModel_93 (by decide) rfl rfl rfl rfl (Nat.le_of_ble_eq_true rfl) (by omega) (by decide) ?_
        refine g_if_eq (tgt := 147) B d_X10_goDays_131 (by decide) h (fun h => ?_) (fun h => ?_)
        · exact g_cut rfl (t_X10_goDays_147 B En N (k11) x1 (K11) (q_w z101.2 84 12 z101.1) h)
        · refine g_aload_n B d_X10_goDays_134 rfl rfl ?_
          refine g_aload_n B d_X10_goDays_135 rfl rfl ?_
          refine g_get (ci := 10) (k := 13) B d_X10_goDays_136 q_in10 rfl (by decide) rfl (by decide) w_WaterOthersModel_120 rfl rfl ?_
          refine g_put (ci := 10) (k := 10) (v := ((q_w z101.2 84 12 z101.1).1 84 13)) (ty := .int) B d_X10_goDays_139 q_in10 rfl q_yk10 q_nm10 (by decide) (fun _ _ => rfl) (by decide) w_WaterOthersModel_87 rfl rfl rfl rfl rfl (Nat.le_of_ble_eq_true rfl) (fun _ _ => rfl) ?_
          refine g_aload_n B d_X10_goDays_142 rfl rfl ?_
          refine g_iload_n B d_X10_goDays_143 rfl rfl ?_
          refine g_put (ci := 10) (k := 11) (v := x3) (ty := .int) B d_X10_goDays_144 q_in10 rfl q_yk10 q_nm10 (by decide) (fun _ _ => rfl) (by decide) w_WaterOthersModel_90 rfl rfl rfl rfl rfl (Nat.le_of_ble_eq_true rfl) (fun _ _ => rfl) ?_
          exact g_cut rfl (t_X10_goDays_147 B En N (k11) x1 (K11) (q_w (q_w (q_w z101.2 84 12 z101.1) 84 10 ((q_w z101.2 84 12 z101.1).1 84 13)) 84 11 x3) h)
set_option maxRecDepth 20000 in
theorem t_X10_goDays_11 {Z : q_Z} {Γ : q_C} {r : Int32} {σ' : q_S} (B : q_B Z Γ prog_12_method_26_code "WaterOthersModel" 5 5) (En : q_E Z Γ (some .int) (some (.int r)) σ') (N : Nat)     : ∀ (n : Nat) (x1 : Int32) (σ : q_S), f_X10_goDays_11 N n x1 σ = some (r, σ') → q_G Z Γ 5 σ 11 [(0, .ref (Z.1 84)), (1, .int x1)] [] := by
  intro n
  induction n with
  | zero =>
    intro x1 σ h
    cases h
  | succ n ih =>
    intro x1 σ h
    unfold f_X10_goDays_11 at h
    refine g_iload_n B d_X10_goDays_11 rfl rfl ?_
    refine g_aload_n B d_X10_goDays_12 rfl rfl ?_
    refine g_get (ci := 10) (k := 8) B d_X10_goDays_13 q_in10 rfl (by decide) rfl (by decide) w_WaterOthersModel_80 rfl rfl ?_
    refine g_icmp_ge (tgt := 175) B d_X10_goDays_16 (by decide) h (fun h => ?_) (fun h => ?_)
    · refine g_bipush (v := (-6)) B d_X10_goDays_175 (by decide) ?_
      obtain ⟨rfl, rfl⟩ := q_ps h
      exact g_iret B En d_X10_goDays_177
    · refine g_aload_n B d_X10_goDays_19 rfl rfl ?_
      refine g_get (ci := 10) (k := 9) (v := .ref (Z.1 89)) B d_X10_goDays_20 q_in10 rfl (by decide) rfl (by decide) w_WaterOthersModel_26 rfl rfl ?_
      refine g_iload_n B d_X10_goDays_23 rfl rfl ?_
      obtain ⟨h24, h⟩ := q_chk h
      refine g_iald B d_X10_goDays_24 (by decide) (fun _ _ => rfl) h24 ?_
      refine g_istore_n B d_X10_goDays_25 rfl (by decide) ?_
      refine g_aload_n B d_X10_goDays_26 rfl rfl ?_
      refine g_iconst (v := 0) B d_X10_goDays_27 (by decide) ?_
      refine g_put (ci := 10) (k := 12) (v := 0) (ty := .int) B d_X10_goDays_28 q_in10 rfl q_yk10 q_nm10 (by decide) (fun _ _ => rfl) (by decide) w_WaterOthersModel_123 rfl rfl rfl rfl rfl (Nat.le_of_ble_eq_true rfl) (fun _ _ => rfl) ?_
      refine g_iload_n B d_X10_goDays_31 rfl rfl ?_
      refine g_bipush (v := 126) B d_X10_goDays_32 (by decide) ?_
      refine g_icmp_ne (tgt := 44) B d_X10_goDays_34 (by decide) h (fun h => ?_) (fun h => ?_)
      · refine g_iload_n B d_X10_goDays_44 rfl rfl ?_
        refine g_bipush (v := 46) B d_X10_goDays_45 (by decide) ?_
        refine g_icmp_ne (tgt := 61) B d_X10_goDays_47 (by decide) h (fun h => ?_) (fun h => ?_)
        · refine g_iinc (v := (x1 + 1)) B d_X10_goDays_61 rfl rfl (by decide) ?_
          refine g_iload_n B d_X10_goDays_64 rfl rfl ?_
          refine g_bipush (v := 65) B d_X10_goDays_65 (by decide) ?_
          refine g_isub B d_X10_goDays_67 ?_
          refine g_istore_n B d_X10_goDays_68 rfl (by decide) ?_
          refine g_aload_n B d_X10_goDays_69 rfl rfl ?_
          refine g_iload_n B d_X10_goDays_70 rfl rfl ?_
          refine g_callV (p0 := 84) (ci := 10) (As := [.int ((σ.1 89 (x1 : Int32).toNatClampNeg) - 65)]) (rest := []) B d_X10_goDays_71 (t_X10_isThere ((σ.1 89 (x1 : Int32).toNatClampNeg) - 65) (q_w σ 84 12 0) rfl) m_X10_isThere w_WaterOthersModel_77 (by decide) rfl rfl rfl rfl (Nat.le_of_ble_eq_true rfl) (by omega) (by decide) ?_
          refine g_if_eq (tgt := 89) B d_X10_goDays_74 (by decide) h (fun h => ?_) (fun h => ?_)
          · refine g_iconst (v := 0) B d_X10_goDays_89 (by decide) ?_
            exact g_cut rfl (t_X10_goDays_90 B En N (fun x1 σ => f_X10_goDays_11 N n x1 σ) (x1 + 1) ((σ.1 89 (x1 : Int32).toNatClampNeg) - 65) 0 (ih) (q_w σ 84 12 0) h)
          · refine g_aload_n B d_X10_goDays_77 rfl rfl ?_
            refine g_iload_n B d_X10_goDays_78 rfl rfl ?_
            obtain ⟨z79, g79, h⟩ := q_bind h
            refine g_callV (p0 := 84) (ci := 10) (As := [.int ((σ.1 89 (x1 : Int32).toNatClampNeg) - 65)]) (rest := []) B d_X10_goDays_79 (t_X10_hasParted ((σ.1 89 (x1 : Int32).toNatClampNeg) - 65) (q_w σ 84 12 0) g79) m_X10_hasParted w_WaterOthersModel_93 (by decide) rfl rfl rfl rfl (Nat.le_of_ble_eq_true rfl) (by omega) (by decide) ?_
            refine g_if_eq (tgt := 89) B d_X10_goDays_82 (by decide) h (fun h => ?_) (fun h => ?_)
            · refine g_iconst (v := 0) B d_X10_goDays_89 (by decide) ?_
              exact g_cut rfl (t_X10_goDays_90 B En N (fun x1 σ => f_X10_goDays_11 N n x1 σ) (x1 + 1) ((σ.1 89 (x1 : Int32).toNatClampNeg) - 65) 0 (ih) (q_w σ 84 12 0) h)
            · refine g_iconst (v := 1) B d_X10_goDays_85 (by decide) ?_
              refine g_goto (tgt := 90) B d_X10_goDays_86 (by decide) ?_
              exact g_cut rfl (t_X10_goDays_90 B En N (fun x1 σ => f_X10_goDays_11 N n x1 σ) (x1 + 1) ((σ.1 89 (x1 : Int32).toNatClampNeg) - 65) 1 (ih) (q_w σ 84 12 0) h)
        · refine g_aload_n B d_X10_goDays_50 rfl rfl ?_
          refine g_aload_n B d_X10_goDays_51 rfl rfl ?_
          obtain ⟨z52, g52, h⟩ := q_bind h
          refine g_callV (p0 := 84) (ci := 10) (As := []) (rest := [.ref (Z.1 84)]) B d_X10_goDays_52 (t_X10_beat N (q_w σ 84 12 0) g52) m_X10_beat w_WaterOthersModel_129 (by decide) rfl rfl rfl rfl (Nat.le_of_ble_eq_true rfl) (by omega) (by decide) ?_
          refine g_put (ci := 10) (k := 12) (v := z52.1) (ty := .int) B d_X10_goDays_55 q_in10 rfl q_yk10 q_nm10 (by decide) (fun _ _ => rfl) (by decide) w_WaterOthersModel_123 rfl rfl rfl rfl rfl (Nat.le_of_ble_eq_true rfl) (fun _ _ => rfl) ?_
          refine g_goto (tgt := 147) B d_X10_goDays_58 (by decide) ?_
          exact g_cut rfl (t_X10_goDays_147 B En N (fun x1 σ => f_X10_goDays_11 N n x1 σ) x1 (ih) (q_w z52.2 84 12 z52.1) h)
      · refine g_aload_n B d_X10_goDays_37 rfl rfl ?_
        obtain ⟨z38, g38, h⟩ := q_bind h
        refine g_callV (p0 := 84) (ci := 10) (As := []) (rest := []) B d_X10_goDays_38 (t_X10_blow N (q_w σ 84 12 0) g38) m_X10_blow w_WaterOthersModel_126 (by decide) rfl rfl rfl rfl (Nat.le_of_ble_eq_true rfl) (by omega) (by decide) ?_
        refine g_goto (tgt := 147) B d_X10_goDays_41 (by decide) ?_
        exact g_cut rfl (t_X10_goDays_147 B En N (fun x1 σ => f_X10_goDays_11 N n x1 σ) x1 (ih) z38 h)
set_option maxRecDepth 20000 in
theorem t_X10_goDays {Z : q_Z} {l : Launch} (N : Nat)   (σ : q_S) {r : Int32} {σ' : q_S} (h : f_X10_goDays N σ = some (r, σ')) : q_M Z l y_X10_goDays prog_12_method_26_code 5 (some .int) 5 [.ref (Z.1 84)] σ (some (.int r)) σ' := by
  refine q_met (by decide +kernel) (Nat.le_of_ble_eq_true rfl) (fun Γ hΓ B En => ?_)
  unfold f_X10_goDays at h
  refine g_cut (lv' := [(0, .ref (Z.1 84))]) rfl ?_
  refine g_aload_n B d_X10_goDays_0 rfl rfl ?_
  obtain ⟨z1, g1, h⟩ := q_bind h
  refine g_callV (p0 := 84) (ci := 10) (As := []) (rest := []) B d_X10_goDays_1 (t_X10_asNow N σ g1) m_X10_asNow w_WaterOthersModel_117 (by decide) rfl rfl rfl rfl (Nat.le_of_ble_eq_true rfl) (by omega) (by decide) ?_
  refine g_aload_n B d_X10_goDays_4 rfl rfl ?_
  refine g_iconst (v := 0) B d_X10_goDays_5 (by decide) ?_
  refine g_put (ci := 10) (k := 13) (v := 0) (ty := .int) B d_X10_goDays_6 q_in10 rfl q_yk10 q_nm10 (by decide) (fun _ _ => rfl) (by decide) w_WaterOthersModel_120 rfl rfl rfl rfl rfl (Nat.le_of_ble_eq_true rfl) (fun _ _ => rfl) ?_
  refine g_iconst (v := 0) B d_X10_goDays_9 (by decide) ?_
  refine g_istore_n B d_X10_goDays_10 rfl (by decide) ?_
  exact g_cut rfl (t_X10_goDays_11 B En N N 0 (q_w z1 84 13 0) h)

theorem w_WaterOthersModel_135 : Cond.methodLink "WaterOthersModel" 135 y_X10_goDays ∈ q_tbl := q_mem 804 (by decide +kernel) (by decide +kernel)
def f_X10_judge (N : Nat) (a0 : Int32) (σ : q_S) : Option (Int32 × q_S) :=
  if (f_X10_in a0 0 1) = 0 then (some ((-2), σ))
  else ((f_X10_faultOf N σ).bind fun z13 =>
    if z13 < 0 then ((f_X10_goDays N σ).bind fun z23 =>
      if z23.1 < 0 then (some (z23.1, z23.2))
      else (if a0 = 0 then (some (z23.1, z23.2))
        else (some ((z23.2.1 84 12), z23.2))))
    else (some ((-5), σ)))
set_option maxRecDepth 20000 in
theorem t_X10_judge {Z : q_Z} {l : Launch} (N : Nat) (a0 : Int32)  (σ : q_S) {r : Int32} {σ' : q_S} (h : f_X10_judge N a0 σ = some (r, σ')) : q_M Z l y_X10_judge prog_12_method_27_code 3 (some .int) 6 [.ref (Z.1 84), .int a0] σ (some (.int r)) σ' := by
  refine q_met (by decide +kernel) (Nat.le_of_ble_eq_true rfl) (fun Γ hΓ B En => ?_)
  unfold f_X10_judge at h
  refine g_cut (lv' := [(0, .ref (Z.1 84)), (1, .int a0)]) rfl ?_
  refine g_iload_n B d_X10_judge_0 rfl rfl ?_
  refine g_iconst (v := 0) B d_X10_judge_1 (by decide) ?_
  refine g_iconst (v := 1) B d_X10_judge_2 (by decide) ?_
  refine g_callS (As := [.int a0, .int 0, .int 1]) (rest := []) B d_X10_judge_3 (t_X10_in a0 0 1 σ rfl) m_X10_in w_WaterOthersModel_55 rfl rfl (Nat.le_of_ble_eq_true rfl) (by omega) (by decide) ?_
  refine g_if_ne (tgt := 12) B d_X10_judge_6 (by decide) h (fun h => ?_) (fun h => ?_)
  · refine g_aload_n B d_X10_judge_12 rfl rfl ?_
    obtain ⟨z13, g13, h⟩ := q_bind h
    refine g_callV (p0 := 84) (ci := 10) (As := []) (rest := []) B d_X10_judge_13 (t_X10_faultOf N σ g13) m_X10_faultOf w_WaterOthersModel_83 (by decide) rfl rfl rfl rfl (Nat.le_of_ble_eq_true rfl) (by omega) (by decide) ?_
    refine g_if_lt (tgt := 22) B d_X10_judge_16 (by decide) h (fun h => ?_) (fun h => ?_)
    · refine g_aload_n B d_X10_judge_22 rfl rfl ?_
      obtain ⟨z23, g23, h⟩ := q_bind h
      refine g_callV (p0 := 84) (ci := 10) (As := []) (rest := []) B d_X10_judge_23 (t_X10_goDays N σ g23) m_X10_goDays w_WaterOthersModel_135 (by decide) rfl rfl rfl rfl (Nat.le_of_ble_eq_true rfl) (by omega) (by decide) ?_
      refine g_istore_n B d_X10_judge_26 rfl (by decide) ?_
      refine g_iload_n B d_X10_judge_27 rfl rfl ?_
      refine g_if_lt (tgt := 35) B d_X10_judge_28 (by decide) h (fun h => ?_) (fun h => ?_)
      · refine g_iload_n B d_X10_judge_35 rfl rfl ?_
        refine g_goto (tgt := 43) B d_X10_judge_36 (by decide) ?_
        obtain ⟨rfl, rfl⟩ := q_ps h
        exact g_iret B En d_X10_judge_43
      · refine g_iload_n B d_X10_judge_31 rfl rfl ?_
        refine g_if_ne (tgt := 39) B d_X10_judge_32 (by decide) h (fun h => ?_) (fun h => ?_)
        · refine g_aload_n B d_X10_judge_39 rfl rfl ?_
          refine g_get (ci := 10) (k := 12) B d_X10_judge_40 q_in10 rfl (by decide) rfl (by decide) w_WaterOthersModel_123 rfl rfl ?_
          obtain ⟨rfl, rfl⟩ := q_ps h
          exact g_iret B En d_X10_judge_43
        · refine g_iload_n B d_X10_judge_35 rfl rfl ?_
          refine g_goto (tgt := 43) B d_X10_judge_36 (by decide) ?_
          obtain ⟨rfl, rfl⟩ := q_ps h
          exact g_iret B En d_X10_judge_43
    · refine g_bipush (v := (-5)) B d_X10_judge_19 (by decide) ?_
      obtain ⟨rfl, rfl⟩ := q_ps h
      exact g_iret B En d_X10_judge_21
  · refine g_bipush (v := (-2)) B d_X10_judge_9 (by decide) ?_
    obtain ⟨rfl, rfl⟩ := q_ps h
    exact g_iret B En d_X10_judge_11

def f_X10_barOfDays (N : Nat)  (σ : q_S) : Option (Int32 × q_S) :=
  (f_X10_faultOf N σ).bind fun z1 =>
  if (0 : Int32) ≤ z1 then (some ((-5), σ))
  else ((f_X10_goDays N σ).bind fun z8 =>
    if z8.1 < 0 then (some (0, z8.2))
    else (some ((-5), z8.2)))
set_option maxRecDepth 20000 in
theorem t_X10_barOfDays {Z : q_Z} {l : Launch} (N : Nat)   (σ : q_S) {r : Int32} {σ' : q_S} (h : f_X10_barOfDays N σ = some (r, σ')) : q_M Z l y_X10_barOfDays prog_12_method_28_code 1 (some .int) 6 [.ref (Z.1 84)] σ (some (.int r)) σ' := by
  refine q_met (by decide +kernel) (Nat.le_of_ble_eq_true rfl) (fun Γ hΓ B En => ?_)
  unfold f_X10_barOfDays at h
  refine g_cut (lv' := [(0, .ref (Z.1 84))]) rfl ?_
  refine g_aload_n B d_X10_barOfDays_0 rfl rfl ?_
  obtain ⟨z1, g1, h⟩ := q_bind h
  refine g_callV (p0 := 84) (ci := 10) (As := []) (rest := []) B d_X10_barOfDays_1 (t_X10_faultOf N σ g1) m_X10_faultOf w_WaterOthersModel_83 (by decide) rfl rfl rfl rfl (Nat.le_of_ble_eq_true rfl) (by omega) (by decide) ?_
  refine g_if_ge (tgt := 14) B d_X10_barOfDays_4 (by decide) h (fun h => ?_) (fun h => ?_)
  · refine g_bipush (v := (-5)) B d_X10_barOfDays_14 (by decide) ?_
    refine g_goto (tgt := 20) B d_X10_barOfDays_16 (by decide) ?_
    obtain ⟨rfl, rfl⟩ := q_ps h
    exact g_iret B En d_X10_barOfDays_20
  · refine g_aload_n B d_X10_barOfDays_7 rfl rfl ?_
    obtain ⟨z8, g8, h⟩ := q_bind h
    refine g_callV (p0 := 84) (ci := 10) (As := []) (rest := []) B d_X10_barOfDays_8 (t_X10_goDays N σ g8) m_X10_goDays w_WaterOthersModel_135 (by decide) rfl rfl rfl rfl (Nat.le_of_ble_eq_true rfl) (by omega) (by decide) ?_
    refine g_if_lt (tgt := 19) B d_X10_barOfDays_11 (by decide) h (fun h => ?_) (fun h => ?_)
    · refine g_iconst (v := 0) B d_X10_barOfDays_19 (by decide) ?_
      obtain ⟨rfl, rfl⟩ := q_ps h
      exact g_iret B En d_X10_barOfDays_20
    · refine g_bipush (v := (-5)) B d_X10_barOfDays_14 (by decide) ?_
      refine g_goto (tgt := 20) B d_X10_barOfDays_16 (by decide) ?_
      obtain ⟨rfl, rfl⟩ := q_ps h
      exact g_iret B En d_X10_barOfDays_20

theorem w_WaterOthersModel_138 : Cond.methodLink "WaterOthersModel" 138 y_X10_barOfDays ∈ q_tbl := q_mem 856 (by decide +kernel) (by decide +kernel)
def f_X10_done_12 (N : Nat)    : Nat → Int32 → q_S → Option (Int32 × q_S)
  | 0, _, _ => none
  | n + 1, x1, σ =>
    if (50 : Int32) ≤ x1 then (some (((q_w σ 84 8 0).1 84 13), (q_w σ 84 8 0)))
    else (if ¬ ((x1 : Int32) < 0 ∨ 50 ≤ (x1 : Int32).toNatClampNeg) then f_X10_done_12 N n (x1 + 1) (q_w σ 85 (x1 : Int32).toNatClampNeg (σ.1 86 (x1 : Int32).toNatClampNeg)) else none)
def f_X10_done (N : Nat)  (σ : q_S) : Option (Int32 × q_S) :=
  (f_X10_barOfDays N σ).bind fun z1 =>
  if (0 : Int32) ≤ z1.1 then (f_X10_done_12 N N 0 z1.2)
  else (some ((-5), z1.2))
set_option maxRecDepth 20000 in
theorem t_X10_done_12 {Z : q_Z} {Γ : q_C} {r : Int32} {σ' : q_S} (B : q_B Z Γ prog_12_method_29_code "WaterOthersModel" 2 7) (En : q_E Z Γ (some .int) (some (.int r)) σ') (N : Nat)     : ∀ (n : Nat) (x1 : Int32) (σ : q_S), f_X10_done_12 N n x1 σ = some (r, σ') → q_G Z Γ 2 σ 12 [(0, .ref (Z.1 84)), (1, .int x1)] [] := by
  intro n
  induction n with
  | zero =>
    intro x1 σ h
    cases h
  | succ n ih =>
    intro x1 σ h
    unfold f_X10_done_12 at h
    refine g_iload_n B d_X10_done_12 rfl rfl ?_
    refine g_bipush (v := 50) B d_X10_done_13 (by decide) ?_
    refine g_icmp_ge (tgt := 36) B d_X10_done_15 (by decide) h (fun h => ?_) (fun h => ?_)
    · refine g_aload_n B d_X10_done_36 rfl rfl ?_
      refine g_iconst (v := 0) B d_X10_done_37 (by decide) ?_
      refine g_put (ci := 10) (k := 8) (v := 0) (ty := .int) B d_X10_done_38 q_in10 rfl q_yk10 q_nm10 (by decide) (fun _ _ => rfl) (by decide) w_WaterOthersModel_80 rfl rfl rfl rfl rfl (Nat.le_of_ble_eq_true rfl) (fun _ _ => rfl) ?_
      refine g_aload_n B d_X10_done_41 rfl rfl ?_
      refine g_get (ci := 10) (k := 13) B d_X10_done_42 q_in10 rfl (by decide) rfl (by decide) w_WaterOthersModel_120 rfl rfl ?_
      obtain ⟨rfl, rfl⟩ := q_ps h
      exact g_iret B En d_X10_done_45
    · refine g_aload_n B d_X10_done_18 rfl rfl ?_
      refine g_get (ci := 10) (k := 0) (v := .ref (Z.1 85)) B d_X10_done_19 q_in10 rfl (by decide) rfl (by decide) w_WaterOthersModel_7 rfl rfl ?_
      refine g_iload_n B d_X10_done_22 rfl rfl ?_
      refine g_aload_n B d_X10_done_23 rfl rfl ?_
      refine g_get (ci := 10) (k := 1) (v := .ref (Z.1 86)) B d_X10_done_24 q_in10 rfl (by decide) rfl (by decide) w_WaterOthersModel_13 rfl rfl ?_
      refine g_iload_n B d_X10_done_27 rfl rfl ?_
      obtain ⟨h28, h⟩ := q_chk h
      refine g_iald B d_X10_done_28 (by decide) (fun _ _ => rfl) h28 ?_
      refine g_iast B d_X10_done_29 (by decide) (fun _ _ => rfl) h28 ?_
      refine g_iinc (v := (x1 + 1)) B d_X10_done_30 rfl rfl (by decide) ?_
      refine g_goto (tgt := 12) B d_X10_done_33 (by decide) ?_
      exact g_cut rfl (ih (x1 + 1) (q_w σ 85 (x1 : Int32).toNatClampNeg (σ.1 86 (x1 : Int32).toNatClampNeg)) h)
set_option maxRecDepth 20000 in
theorem t_X10_done {Z : q_Z} {l : Launch} (N : Nat)   (σ : q_S) {r : Int32} {σ' : q_S} (h : f_X10_done N σ = some (r, σ')) : q_M Z l y_X10_done prog_12_method_29_code 2 (some .int) 7 [.ref (Z.1 84)] σ (some (.int r)) σ' := by
  refine q_met (by decide +kernel) (Nat.le_of_ble_eq_true rfl) (fun Γ hΓ B En => ?_)
  unfold f_X10_done at h
  refine g_cut (lv' := [(0, .ref (Z.1 84))]) rfl ?_
  refine g_aload_n B d_X10_done_0 rfl rfl ?_
  obtain ⟨z1, g1, h⟩ := q_bind h
  refine g_callV (p0 := 84) (ci := 10) (As := []) (rest := []) B d_X10_done_1 (t_X10_barOfDays N σ g1) m_X10_barOfDays w_WaterOthersModel_138 (by decide) rfl rfl rfl rfl (Nat.le_of_ble_eq_true rfl) (by omega) (by decide) ?_
  refine g_if_ge (tgt := 10) B d_X10_done_4 (by decide) h (fun h => ?_) (fun h => ?_)
  · refine g_iconst (v := 0) B d_X10_done_10 (by decide) ?_
    refine g_istore_n B d_X10_done_11 rfl (by decide) ?_
    exact g_cut rfl (t_X10_done_12 B En N N 0 z1.2 h)
  · refine g_bipush (v := (-5)) B d_X10_done_7 (by decide) ?_
    obtain ⟨rfl, rfl⟩ := q_ps h
    exact g_iret B En d_X10_done_9

def f_X10_behind (N : Nat) (a0 : Int32) (a1 : Int32) (σ : q_S) : Option (Int32 × q_S) :=
  if (f_X10_isThere a0 σ) = 0 then (some ((-1), σ))
  else (if (f_X10_in a1 0 2) = 0 then (some ((-2), σ))
    else ((f_X10_barOfDays N σ).bind fun z23 =>
      if (0 : Int32) ≤ z23.1 then (if a1 = 0 then (if ¬ (((6 * a0) : Int32) < 0 ∨ 50 ≤ ((6 * a0) : Int32).toNatClampNeg) then some ((z23.2.1 86 ((6 * a0) : Int32).toNatClampNeg), z23.2) else none)
        else (if a1 = 1 then ((f_X10_otherOf a0 z23.2).bind fun z55 =>
            some (z55, z23.2))
          else ((f_X10_hasParted a0 z23.2).bind fun z63 =>
            if z63 = 0 then (some (0, z23.2))
            else (some (1, z23.2)))))
      else (some ((-5), z23.2))))
set_option maxRecDepth 20000 in
theorem t_X10_behind {Z : q_Z} {l : Launch} (N : Nat) (a0 : Int32) (a1 : Int32)  (σ : q_S) {r : Int32} {σ' : q_S} (h : f_X10_behind N a0 a1 σ = some (r, σ')) : q_M Z l y_X10_behind prog_12_method_30_code 3 (some .int) 7 [.ref (Z.1 84), .int a0, .int a1] σ (some (.int r)) σ' := by
  refine q_met (by decide +kernel) (Nat.le_of_ble_eq_true rfl) (fun Γ hΓ B En => ?_)
  unfold f_X10_behind at h
  refine g_cut (lv' := [(0, .ref (Z.1 84)), (1, .int a0), (2, .int a1)]) rfl ?_
  refine g_aload_n B d_X10_behind_0 rfl rfl ?_
  refine g_iload_n B d_X10_behind_1 rfl rfl ?_
  refine g_callV (p0 := 84) (ci := 10) (As := [.int a0]) (rest := []) B d_X10_behind_2 (t_X10_isThere a0 σ rfl) m_X10_isThere w_WaterOthersModel_77 (by decide) rfl rfl rfl rfl (Nat.le_of_ble_eq_true rfl) (by omega) (by decide) ?_
  refine g_if_ne (tgt := 10) B d_X10_behind_5 (by decide) h (fun h => ?_) (fun h => ?_)
  · refine g_iload_n B d_X10_behind_10 rfl rfl ?_
    refine g_iconst (v := 0) B d_X10_behind_11 (by decide) ?_
    refine g_iconst (v := 2) B d_X10_behind_12 (by decide) ?_
    refine g_callS (As := [.int a1, .int 0, .int 2]) (rest := []) B d_X10_behind_13 (t_X10_in a1 0 2 σ rfl) m_X10_in w_WaterOthersModel_55 rfl rfl (Nat.le_of_ble_eq_true rfl) (by omega) (by decide) ?_
    refine g_if_ne (tgt := 22) B d_X10_behind_16 (by decide) h (fun h => ?_) (fun h => ?_)
    · refine g_aload_n B d_X10_behind_22 rfl rfl ?_
      obtain ⟨z23, g23, h⟩ := q_bind h
      refine g_callV (p0 := 84) (ci := 10) (As := []) (rest := []) B d_X10_behind_23 (t_X10_barOfDays N σ g23) m_X10_barOfDays w_WaterOthersModel_138 (by decide) rfl rfl rfl rfl (Nat.le_of_ble_eq_true rfl) (by omega) (by decide) ?_
      refine g_if_ge (tgt := 32) B d_X10_behind_26 (by decide) h (fun h => ?_) (fun h => ?_)
      · refine g_iload_n B d_X10_behind_32 rfl rfl ?_
        refine g_if_ne (tgt := 48) B d_X10_behind_33 (by decide) h (fun h => ?_) (fun h => ?_)
        · refine g_iload_n B d_X10_behind_48 rfl rfl ?_
          refine g_iconst (v := 1) B d_X10_behind_49 (by decide) ?_
          refine g_icmp_ne (tgt := 61) B d_X10_behind_50 (by decide) h (fun h => ?_) (fun h => ?_)
          · refine g_aload_n B d_X10_behind_61 rfl rfl ?_
            refine g_iload_n B d_X10_behind_62 rfl rfl ?_
            obtain ⟨z63, g63, h⟩ := q_bind h
            refine g_callV (p0 := 84) (ci := 10) (As := [.int a0]) (rest := []) B d_X10_behind_63 (t_X10_hasParted a0 z23.2 g63) m_X10_hasParted w_WaterOthersModel_93 (by decide) rfl rfl rfl rfl (Nat.le_of_ble_eq_true rfl) (by omega) (by decide) ?_
            refine g_if_eq (tgt := 73) B d_X10_behind_66 (by decide) h (fun h => ?_) (fun h => ?_)
            · refine g_iconst (v := 0) B d_X10_behind_73 (by decide) ?_
              obtain ⟨rfl, rfl⟩ := q_ps h
              exact g_iret B En d_X10_behind_74
            · refine g_iconst (v := 1) B d_X10_behind_69 (by decide) ?_
              refine g_goto (tgt := 74) B d_X10_behind_70 (by decide) ?_
              obtain ⟨rfl, rfl⟩ := q_ps h
              exact g_iret B En d_X10_behind_74
          · refine g_aload_n B d_X10_behind_53 rfl rfl ?_
            refine g_iload_n B d_X10_behind_54 rfl rfl ?_
            obtain ⟨z55, g55, h⟩ := q_bind h
            refine g_callV (p0 := 84) (ci := 10) (As := [.int a0]) (rest := []) B d_X10_behind_55 (t_X10_otherOf a0 z23.2 g55) m_X10_otherOf w_WaterOthersModel_96 (by decide) rfl rfl rfl rfl (Nat.le_of_ble_eq_true rfl) (by omega) (by decide) ?_
            refine g_goto (tgt := 74) B d_X10_behind_58 (by decide) ?_
            obtain ⟨rfl, rfl⟩ := q_ps h
            exact g_iret B En d_X10_behind_74
        · refine g_aload_n B d_X10_behind_36 rfl rfl ?_
          refine g_get (ci := 10) (k := 1) (v := .ref (Z.1 86)) B d_X10_behind_37 q_in10 rfl (by decide) rfl (by decide) w_WaterOthersModel_13 rfl rfl ?_
          refine g_bipush (v := 6) B d_X10_behind_40 (by decide) ?_
          refine g_iload_n B d_X10_behind_42 rfl rfl ?_
          refine g_imul B d_X10_behind_43 ?_
          obtain ⟨h44, h⟩ := q_chk h
          refine g_iald B d_X10_behind_44 (by decide) (fun _ _ => rfl) h44 ?_
          refine g_goto (tgt := 74) B d_X10_behind_45 (by decide) ?_
          obtain ⟨rfl, rfl⟩ := q_ps h
          exact g_iret B En d_X10_behind_74
      · refine g_bipush (v := (-5)) B d_X10_behind_29 (by decide) ?_
        obtain ⟨rfl, rfl⟩ := q_ps h
        exact g_iret B En d_X10_behind_31
    · refine g_bipush (v := (-2)) B d_X10_behind_19 (by decide) ?_
      obtain ⟨rfl, rfl⟩ := q_ps h
      exact g_iret B En d_X10_behind_21
  · refine g_iconst (v := (-1)) B d_X10_behind_8 (by decide) ?_
    obtain ⟨rfl, rfl⟩ := q_ps h
    exact g_iret B En d_X10_behind_9

def f_X10_partedNow_4 (N : Nat)   (σ : q_S) : Nat → Int32 → Int32 → Option Int32
  | 0, _, _ => none
  | n + 1, x1, x2 =>
    if (6 : Int32) ≤ x2 then (some x1)
    else (if (f_X10_isThere x2 σ) = 0 then (f_X10_partedNow_4 N σ n (x1 + 0) (x2 + 1))
      else ((f_X10_hasParted x2 σ).bind fun z21 =>
        if z21 = 0 then (f_X10_partedNow_4 N σ n (x1 + 0) (x2 + 1))
        else (f_X10_partedNow_4 N σ n (x1 + 1) (x2 + 1))))
def f_X10_partedNow (N : Nat)  (σ : q_S) : Option Int32 :=
  f_X10_partedNow_4 N σ N 0 0
set_option maxRecDepth 20000 in
theorem t_X10_partedNow_4 {Z : q_Z} {Γ : q_C} {σ : q_S} {r : Int32} (B : q_B Z Γ prog_12_method_31_code "WaterOthersModel" 3 3) (En : q_E Z Γ (some .int) (some (.int r)) σ) (N : Nat)     : ∀ (n : Nat) (x1 : Int32) (x2 : Int32), f_X10_partedNow_4 N σ n x1 x2 = some r → q_G Z Γ 3 σ 4 [(0, .ref (Z.1 84)), (1, .int x1), (2, .int x2)] [] := by
  intro n
  induction n with
  | zero =>
    intro x1 x2 h
    cases h
  | succ n ih =>
    intro x1 x2 h
    unfold f_X10_partedNow_4 at h
    refine g_iload_n B d_X10_partedNow_4 rfl rfl ?_
    refine g_bipush (v := 6) B d_X10_partedNow_5 (by decide) ?_
    refine g_icmp_ge (tgt := 40) B d_X10_partedNow_7 (by decide) h (fun h => ?_) (fun h => ?_)
    · refine g_iload_n B d_X10_partedNow_40 rfl rfl ?_
      obtain rfl := q_po h
      exact g_iret B En d_X10_partedNow_41
    · refine g_iload_n B d_X10_partedNow_10 rfl rfl ?_
      refine g_aload_n B d_X10_partedNow_11 rfl rfl ?_
      refine g_iload_n B d_X10_partedNow_12 rfl rfl ?_
      refine g_callV (p0 := 84) (ci := 10) (As := [.int x2]) (rest := [.int x1]) B d_X10_partedNow_13 (t_X10_isThere x2 σ rfl) m_X10_isThere w_WaterOthersModel_77 (by decide) rfl rfl rfl rfl (Nat.le_of_ble_eq_true rfl) (by omega) (by decide) ?_
      refine g_if_eq (tgt := 31) B d_X10_partedNow_16 (by decide) h (fun h => ?_) (fun h => ?_)
      · refine g_iconst (v := 0) B d_X10_partedNow_31 (by decide) ?_
        refine g_iadd B d_X10_partedNow_32 ?_
        refine g_istore_n B d_X10_partedNow_33 rfl (by decide) ?_
        refine g_iinc (v := (x2 + 1)) B d_X10_partedNow_34 rfl rfl (by decide) ?_
        refine g_goto (tgt := 4) B d_X10_partedNow_37 (by decide) ?_
        exact g_cut rfl (ih (x1 + 0) (x2 + 1) h)
      · refine g_aload_n B d_X10_partedNow_19 rfl rfl ?_
        refine g_iload_n B d_X10_partedNow_20 rfl rfl ?_
        obtain ⟨z21, g21, h⟩ := q_bind h
        refine g_callV (p0 := 84) (ci := 10) (As := [.int x2]) (rest := [.int x1]) B d_X10_partedNow_21 (t_X10_hasParted x2 σ g21) m_X10_hasParted w_WaterOthersModel_93 (by decide) rfl rfl rfl rfl (Nat.le_of_ble_eq_true rfl) (by omega) (by decide) ?_
        refine g_if_eq (tgt := 31) B d_X10_partedNow_24 (by decide) h (fun h => ?_) (fun h => ?_)
        · refine g_iconst (v := 0) B d_X10_partedNow_31 (by decide) ?_
          refine g_iadd B d_X10_partedNow_32 ?_
          refine g_istore_n B d_X10_partedNow_33 rfl (by decide) ?_
          refine g_iinc (v := (x2 + 1)) B d_X10_partedNow_34 rfl rfl (by decide) ?_
          refine g_goto (tgt := 4) B d_X10_partedNow_37 (by decide) ?_
          exact g_cut rfl (ih (x1 + 0) (x2 + 1) h)
        · refine g_iconst (v := 1) B d_X10_partedNow_27 (by decide) ?_
          refine g_goto (tgt := 32) B d_X10_partedNow_28 (by decide) ?_
          refine g_iadd B d_X10_partedNow_32 ?_
          refine g_istore_n B d_X10_partedNow_33 rfl (by decide) ?_
          refine g_iinc (v := (x2 + 1)) B d_X10_partedNow_34 rfl rfl (by decide) ?_
          refine g_goto (tgt := 4) B d_X10_partedNow_37 (by decide) ?_
          exact g_cut rfl (ih (x1 + 1) (x2 + 1) h)
set_option maxRecDepth 20000 in
theorem t_X10_partedNow {Z : q_Z} {l : Launch} (N : Nat)   (σ : q_S) {r : Int32} (h : f_X10_partedNow N σ = some r) : q_M Z l y_X10_partedNow prog_12_method_31_code 3 (some .int) 3 [.ref (Z.1 84)] σ (some (.int r)) σ := by
  refine q_met (by decide +kernel) (Nat.le_of_ble_eq_true rfl) (fun Γ hΓ B En => ?_)
  unfold f_X10_partedNow at h
  refine g_cut (lv' := [(0, .ref (Z.1 84))]) rfl ?_
  refine g_iconst (v := 0) B d_X10_partedNow_0 (by decide) ?_
  refine g_istore_n B d_X10_partedNow_1 rfl (by decide) ?_
  refine g_iconst (v := 0) B d_X10_partedNow_2 (by decide) ?_
  refine g_istore_n B d_X10_partedNow_3 rfl (by decide) ?_
  exact g_cut rfl (t_X10_partedNow_4 B En N N 0 0 h)

theorem w_WaterOthersModel_141 : Cond.methodLink "WaterOthersModel" 141 y_X10_partedNow ∈ q_tbl := q_mem 868 (by decide +kernel) (by decide +kernel)
def f_X10_then (N : Nat) (a0 : Int32) (σ : q_S) : Option (Int32 × q_S) :=
  if (f_X10_in a0 0 4) = 0 then (some ((-2), σ))
  else ((f_X10_barOfDays N σ).bind fun z13 =>
    if (0 : Int32) ≤ z13.1 then (if (2 : Int32) ≤ a0 then (if a0 = 2 then ((f_X10_partedNow N z13.2).bind fun z45 =>
          some (z45, z13.2))
        else (if a0 = 3 then (some ((z13.2.1 84 10), z13.2))
          else (some ((z13.2.1 84 11), z13.2))))
      else (if ¬ (((48 + a0) : Int32) < 0 ∨ 50 ≤ ((48 + a0) : Int32).toNatClampNeg) then some ((z13.2.1 86 ((48 + a0) : Int32).toNatClampNeg), z13.2) else none))
    else (some ((-5), z13.2)))
set_option maxRecDepth 20000 in
theorem t_X10_then {Z : q_Z} {l : Launch} (N : Nat) (a0 : Int32)  (σ : q_S) {r : Int32} {σ' : q_S} (h : f_X10_then N a0 σ = some (r, σ')) : q_M Z l y_X10_then prog_12_method_32_code 2 (some .int) 7 [.ref (Z.1 84), .int a0] σ (some (.int r)) σ' := by
  refine q_met (by decide +kernel) (Nat.le_of_ble_eq_true rfl) (fun Γ hΓ B En => ?_)
  unfold f_X10_then at h
  refine g_cut (lv' := [(0, .ref (Z.1 84)), (1, .int a0)]) rfl ?_
  refine g_iload_n B d_X10_then_0 rfl rfl ?_
  refine g_iconst (v := 0) B d_X10_then_1 (by decide) ?_
  refine g_iconst (v := 4) B d_X10_then_2 (by decide) ?_
  refine g_callS (As := [.int a0, .int 0, .int 4]) (rest := []) B d_X10_then_3 (t_X10_in a0 0 4 σ rfl) m_X10_in w_WaterOthersModel_55 rfl rfl (Nat.le_of_ble_eq_true rfl) (by omega) (by decide) ?_
  refine g_if_ne (tgt := 12) B d_X10_then_6 (by decide) h (fun h => ?_) (fun h => ?_)
  · refine g_aload_n B d_X10_then_12 rfl rfl ?_
    obtain ⟨z13, g13, h⟩ := q_bind h
    refine g_callV (p0 := 84) (ci := 10) (As := []) (rest := []) B d_X10_then_13 (t_X10_barOfDays N σ g13) m_X10_barOfDays w_WaterOthersModel_138 (by decide) rfl rfl rfl rfl (Nat.le_of_ble_eq_true rfl) (by omega) (by decide) ?_
    refine g_if_ge (tgt := 22) B d_X10_then_16 (by decide) h (fun h => ?_) (fun h => ?_)
    · refine g_iload_n B d_X10_then_22 rfl rfl ?_
      refine g_iconst (v := 2) B d_X10_then_23 (by decide) ?_
      refine g_icmp_ge (tgt := 39) B d_X10_then_24 (by decide) h (fun h => ?_) (fun h => ?_)
      · refine g_iload_n B d_X10_then_39 rfl rfl ?_
        refine g_iconst (v := 2) B d_X10_then_40 (by decide) ?_
        refine g_icmp_ne (tgt := 51) B d_X10_then_41 (by decide) h (fun h => ?_) (fun h => ?_)
        · refine g_iload_n B d_X10_then_51 rfl rfl ?_
          refine g_iconst (v := 3) B d_X10_then_52 (by decide) ?_
          refine g_icmp_ne (tgt := 63) B d_X10_then_53 (by decide) h (fun h => ?_) (fun h => ?_)
          · refine g_aload_n B d_X10_then_63 rfl rfl ?_
            refine g_get (ci := 10) (k := 11) B d_X10_then_64 q_in10 rfl (by decide) rfl (by decide) w_WaterOthersModel_90 rfl rfl ?_
            obtain ⟨rfl, rfl⟩ := q_ps h
            exact g_iret B En d_X10_then_67
          · refine g_aload_n B d_X10_then_56 rfl rfl ?_
            refine g_get (ci := 10) (k := 10) B d_X10_then_57 q_in10 rfl (by decide) rfl (by decide) w_WaterOthersModel_87 rfl rfl ?_
            refine g_goto (tgt := 67) B d_X10_then_60 (by decide) ?_
            obtain ⟨rfl, rfl⟩ := q_ps h
            exact g_iret B En d_X10_then_67
        · refine g_aload_n B d_X10_then_44 rfl rfl ?_
          obtain ⟨z45, g45, h⟩ := q_bind h
          refine g_callV (p0 := 84) (ci := 10) (As := []) (rest := []) B d_X10_then_45 (t_X10_partedNow N z13.2 g45) m_X10_partedNow w_WaterOthersModel_141 (by decide) rfl rfl rfl rfl (Nat.le_of_ble_eq_true rfl) (by omega) (by decide) ?_
          refine g_goto (tgt := 67) B d_X10_then_48 (by decide) ?_
          obtain ⟨rfl, rfl⟩ := q_ps h
          exact g_iret B En d_X10_then_67
      · refine g_aload_n B d_X10_then_27 rfl rfl ?_
        refine g_get (ci := 10) (k := 1) (v := .ref (Z.1 86)) B d_X10_then_28 q_in10 rfl (by decide) rfl (by decide) w_WaterOthersModel_13 rfl rfl ?_
        refine g_bipush (v := 48) B d_X10_then_31 (by decide) ?_
        refine g_iload_n B d_X10_then_33 rfl rfl ?_
        refine g_iadd B d_X10_then_34 ?_
        obtain ⟨h35, h⟩ := q_chk h
        refine g_iald B d_X10_then_35 (by decide) (fun _ _ => rfl) h35 ?_
        refine g_goto (tgt := 67) B d_X10_then_36 (by decide) ?_
        obtain ⟨rfl, rfl⟩ := q_ps h
        exact g_iret B En d_X10_then_67
    · refine g_bipush (v := (-5)) B d_X10_then_19 (by decide) ?_
      obtain ⟨rfl, rfl⟩ := q_ps h
      exact g_iret B En d_X10_then_21
  · refine g_bipush (v := (-2)) B d_X10_then_9 (by decide) ?_
    obtain ⟨rfl, rfl⟩ := q_ps h
    exact g_iret B En d_X10_then_11

def f_X10_standing_78 (N : Nat) (k30 : Int32 → Int32 → q_S → Option (Int32 × q_S)) (x1 : Int32) (x2 : Int32) (x3 : Int32) (x4 : Int32) (t0 : Int32) (σ : q_S) : Option (Int32 × q_S) :=
  if t0 = 0 then (k30 (x3 ||| 0) (x4 + 1) σ)
  else (k30 (x3 ||| (1 <<< (x4 &&& 31))) (x4 + 1) σ)
def f_X10_standing_30 (N : Nat)  (x1 : Int32) (x2 : Int32)  : Nat → Int32 → Int32 → q_S → Option (Int32 × q_S)
  | 0, _, _, _ => none
  | n + 1, x3, x4, σ =>
    if (6 : Int32) ≤ x4 then (some (x3, σ))
    else (if (f_X10_isThere x4 σ) = 0 then (f_X10_standing_78 N (fun x3 x4 σ => f_X10_standing_30 N x1 x2 n x3 x4 σ) x1 x2 x3 x4 0 σ)
      else (if x2 = 0 then (if ¬ (((6 * x4) : Int32) < 0 ∨ 50 ≤ ((6 * x4) : Int32).toNatClampNeg) then if (σ.1 86 ((6 * x4) : Int32).toNatClampNeg) = x1 then (f_X10_standing_78 N (fun x3 x4 σ => f_X10_standing_30 N x1 x2 n x3 x4 σ) x1 x2 x3 x4 1 σ)
          else (f_X10_standing_78 N (fun x3 x4 σ => f_X10_standing_30 N x1 x2 n x3 x4 σ) x1 x2 x3 x4 0 σ) else none)
        else ((f_X10_otherOf x4 σ).bind fun z66 =>
          if z66 = x1 then (f_X10_standing_78 N (fun x3 x4 σ => f_X10_standing_30 N x1 x2 n x3 x4 σ) x1 x2 x3 x4 1 σ)
          else (f_X10_standing_78 N (fun x3 x4 σ => f_X10_standing_30 N x1 x2 n x3 x4 σ) x1 x2 x3 x4 0 σ))))
def f_X10_standing (N : Nat) (a0 : Int32) (a1 : Int32) (σ : q_S) : Option (Int32 × q_S) :=
  if (f_X10_isCell a0) = 0 then (some ((-1), σ))
  else (if (f_X10_in a1 0 1) = 0 then (some ((-2), σ))
    else ((f_X10_asNow N σ).bind fun z22 =>
      f_X10_standing_30 N a0 a1 N 0 0 z22))
set_option maxRecDepth 20000 in
theorem t_X10_standing_78 {Z : q_Z} {Γ : q_C} {r : Int32} {σ' : q_S} (B : q_B Z Γ prog_12_method_33_code "WaterOthersModel" 6 3) (En : q_E Z Γ (some .int) (some (.int r)) σ') (N : Nat) (k30 : Int32 → Int32 → q_S → Option (Int32 × q_S)) (x1 : Int32) (x2 : Int32) (x3 : Int32) (x4 : Int32) (t0 : Int32) (K30 : ∀ (x3 : Int32) (x4 : Int32) (σ : q_S), k30 x3 x4 σ = some (r, σ') → q_G Z Γ 6 σ 30 [(0, .ref (Z.1 84)), (1, .int x1), (2, .int x2), (3, .int x3), (4, .int x4)] []) (σ : q_S)  (h : f_X10_standing_78 N k30 x1 x2 x3 x4 t0 σ = some (r, σ')) : q_G Z Γ 6 σ 78 [(0, .ref (Z.1 84)), (1, .int x1), (2, .int x2), (3, .int x3), (4, .int x4)] [.int t0] := by
  unfold f_X10_standing_78 at h
  refine g_istore B d_X10_standing_78 (by decide) ?_
  refine g_iload_n B d_X10_standing_80 rfl rfl ?_
  refine g_iload B d_X10_standing_81 rfl ?_
  refine g_if_eq (tgt := 93) B d_X10_standing_83 (by decide) h (fun h => ?_) (fun h => ?_)
  · refine g_iconst (v := 0) B d_X10_standing_93 (by decide) ?_
    refine g_ior B d_X10_standing_94 ?_
    refine g_istore_n B d_X10_standing_95 rfl (by decide) ?_
    refine g_iinc (v := (x4 + 1)) B d_X10_standing_96 rfl rfl (by decide) ?_
    refine g_goto (tgt := 30) B d_X10_standing_99 (by decide) ?_
    exact g_cut rfl (K30 (x3 ||| 0) (x4 + 1) σ h)
  · refine g_iconst (v := 1) B d_X10_standing_86 (by decide) ?_
    refine g_iload B d_X10_standing_87 rfl ?_
    refine g_ishl B d_X10_standing_89 ?_
    refine g_goto (tgt := 94) B d_X10_standing_90 (by decide) ?_
    refine g_ior B d_X10_standing_94 ?_
    refine g_istore_n B d_X10_standing_95 rfl (by decide) ?_
    refine g_iinc (v := (x4 + 1)) B d_X10_standing_96 rfl rfl (by decide) ?_
    refine g_goto (tgt := 30) B d_X10_standing_99 (by decide) ?_
    exact g_cut rfl (K30 (x3 ||| (1 <<< (x4 &&& 31))) (x4 + 1) σ h)
set_option maxRecDepth 20000 in
theorem t_X10_standing_30 {Z : q_Z} {Γ : q_C} {r : Int32} {σ' : q_S} (B : q_B Z Γ prog_12_method_33_code "WaterOthersModel" 6 3) (En : q_E Z Γ (some .int) (some (.int r)) σ') (N : Nat)  (x1 : Int32) (x2 : Int32)   : ∀ (n : Nat) (x3 : Int32) (x4 : Int32) (σ : q_S), f_X10_standing_30 N x1 x2 n x3 x4 σ = some (r, σ') → q_G Z Γ 6 σ 30 [(0, .ref (Z.1 84)), (1, .int x1), (2, .int x2), (3, .int x3), (4, .int x4)] [] := by
  intro n
  induction n with
  | zero =>
    intro x3 x4 σ h
    cases h
  | succ n ih =>
    intro x3 x4 σ h
    unfold f_X10_standing_30 at h
    refine g_iload B d_X10_standing_30 rfl ?_
    refine g_bipush (v := 6) B d_X10_standing_32 (by decide) ?_
    refine g_icmp_ge (tgt := 102) B d_X10_standing_34 (by decide) h (fun h => ?_) (fun h => ?_)
    · refine g_iload_n B d_X10_standing_102 rfl rfl ?_
      obtain ⟨rfl, rfl⟩ := q_ps h
      exact g_iret B En d_X10_standing_103
    · refine g_aload_n B d_X10_standing_37 rfl rfl ?_
      refine g_iload B d_X10_standing_38 rfl ?_
      refine g_callV (p0 := 84) (ci := 10) (As := [.int x4]) (rest := []) B d_X10_standing_40 (t_X10_isThere x4 σ rfl) m_X10_isThere w_WaterOthersModel_77 (by decide) rfl rfl rfl rfl (Nat.le_of_ble_eq_true rfl) (by omega) (by decide) ?_
      refine g_if_eq (tgt := 77) B d_X10_standing_43 (by decide) h (fun h => ?_) (fun h => ?_)
      · refine g_iconst (v := 0) B d_X10_standing_77 (by decide) ?_
        exact g_cut rfl (t_X10_standing_78 B En N (fun x3 x4 σ => f_X10_standing_30 N x1 x2 n x3 x4 σ) x1 x2 x3 x4 0 (ih) σ h)
      · refine g_iload_n B d_X10_standing_46 rfl rfl ?_
        refine g_if_ne (tgt := 63) B d_X10_standing_47 (by decide) h (fun h => ?_) (fun h => ?_)
        · refine g_aload_n B d_X10_standing_63 rfl rfl ?_
          refine g_iload B d_X10_standing_64 rfl ?_
          obtain ⟨z66, g66, h⟩ := q_bind h
          refine g_callV (p0 := 84) (ci := 10) (As := [.int x4]) (rest := []) B d_X10_standing_66 (t_X10_otherOf x4 σ g66) m_X10_otherOf w_WaterOthersModel_96 (by decide) rfl rfl rfl rfl (Nat.le_of_ble_eq_true rfl) (by omega) (by decide) ?_
          refine g_iload_n B d_X10_standing_69 rfl rfl ?_
          refine g_icmp_ne (tgt := 77) B d_X10_standing_70 (by decide) h (fun h => ?_) (fun h => ?_)
          · refine g_iconst (v := 0) B d_X10_standing_77 (by decide) ?_
            exact g_cut rfl (t_X10_standing_78 B En N (fun x3 x4 σ => f_X10_standing_30 N x1 x2 n x3 x4 σ) x1 x2 x3 x4 0 (ih) σ h)
          · refine g_iconst (v := 1) B d_X10_standing_73 (by decide) ?_
            refine g_goto (tgt := 78) B d_X10_standing_74 (by decide) ?_
            exact g_cut rfl (t_X10_standing_78 B En N (fun x3 x4 σ => f_X10_standing_30 N x1 x2 n x3 x4 σ) x1 x2 x3 x4 1 (ih) σ h)
        · refine g_aload_n B d_X10_standing_50 rfl rfl ?_
          refine g_get (ci := 10) (k := 1) (v := .ref (Z.1 86)) B d_X10_standing_51 q_in10 rfl (by decide) rfl (by decide) w_WaterOthersModel_13 rfl rfl ?_
          refine g_bipush (v := 6) B d_X10_standing_54 (by decide) ?_
          refine g_iload B d_X10_standing_56 rfl ?_
          refine g_imul B d_X10_standing_58 ?_
          obtain ⟨h59, h⟩ := q_chk h
          refine g_iald B d_X10_standing_59 (by decide) (fun _ _ => rfl) h59 ?_
          refine g_goto (tgt := 69) B d_X10_standing_60 (by decide) ?_
          refine g_iload_n B d_X10_standing_69 rfl rfl ?_
          refine g_icmp_ne (tgt := 77) B d_X10_standing_70 (by decide) h (fun h => ?_) (fun h => ?_)
          · refine g_iconst (v := 0) B d_X10_standing_77 (by decide) ?_
            exact g_cut rfl (t_X10_standing_78 B En N (fun x3 x4 σ => f_X10_standing_30 N x1 x2 n x3 x4 σ) x1 x2 x3 x4 0 (ih) σ h)
          · refine g_iconst (v := 1) B d_X10_standing_73 (by decide) ?_
            refine g_goto (tgt := 78) B d_X10_standing_74 (by decide) ?_
            exact g_cut rfl (t_X10_standing_78 B En N (fun x3 x4 σ => f_X10_standing_30 N x1 x2 n x3 x4 σ) x1 x2 x3 x4 1 (ih) σ h)
set_option maxRecDepth 20000 in
theorem t_X10_standing {Z : q_Z} {l : Launch} (N : Nat) (a0 : Int32) (a1 : Int32)  (σ : q_S) {r : Int32} {σ' : q_S} (h : f_X10_standing N a0 a1 σ = some (r, σ')) : q_M Z l y_X10_standing prog_12_method_33_code 6 (some .int) 3 [.ref (Z.1 84), .int a0, .int a1] σ (some (.int r)) σ' := by
  refine q_met (by decide +kernel) (Nat.le_of_ble_eq_true rfl) (fun Γ hΓ B En => ?_)
  unfold f_X10_standing at h
  refine g_cut (lv' := [(0, .ref (Z.1 84)), (1, .int a0), (2, .int a1)]) rfl ?_
  refine g_iload_n B d_X10_standing_0 rfl rfl ?_
  refine g_callS (As := [.int a0]) (rest := []) B d_X10_standing_1 (t_X10_isCell a0 σ rfl) m_X10_isCell w_WaterOthersModel_66 rfl rfl (Nat.le_of_ble_eq_true rfl) (by omega) (by decide) ?_
  refine g_if_ne (tgt := 9) B d_X10_standing_4 (by decide) h (fun h => ?_) (fun h => ?_)
  · refine g_iload_n B d_X10_standing_9 rfl rfl ?_
    refine g_iconst (v := 0) B d_X10_standing_10 (by decide) ?_
    refine g_iconst (v := 1) B d_X10_standing_11 (by decide) ?_
    refine g_callS (As := [.int a1, .int 0, .int 1]) (rest := []) B d_X10_standing_12 (t_X10_in a1 0 1 σ rfl) m_X10_in w_WaterOthersModel_55 rfl rfl (Nat.le_of_ble_eq_true rfl) (by omega) (by decide) ?_
    refine g_if_ne (tgt := 21) B d_X10_standing_15 (by decide) h (fun h => ?_) (fun h => ?_)
    · refine g_aload_n B d_X10_standing_21 rfl rfl ?_
      obtain ⟨z22, g22, h⟩ := q_bind h
      refine g_callV (p0 := 84) (ci := 10) (As := []) (rest := []) B d_X10_standing_22 (t_X10_asNow N σ g22) m_X10_asNow w_WaterOthersModel_117 (by decide) rfl rfl rfl rfl (Nat.le_of_ble_eq_true rfl) (by omega) (by decide) ?_
      refine g_iconst (v := 0) B d_X10_standing_25 (by decide) ?_
      refine g_istore_n B d_X10_standing_26 rfl (by decide) ?_
      refine g_iconst (v := 0) B d_X10_standing_27 (by decide) ?_
      refine g_istore B d_X10_standing_28 (by decide) ?_
      exact g_cut rfl (t_X10_standing_30 B En N a0 a1 N 0 0 z22 h)
    · refine g_bipush (v := (-2)) B d_X10_standing_18 (by decide) ?_
      obtain ⟨rfl, rfl⟩ := q_ps h
      exact g_iret B En d_X10_standing_20
  · refine g_iconst (v := (-1)) B d_X10_standing_7 (by decide) ?_
    obtain ⟨rfl, rfl⟩ := q_ps h
    exact g_iret B En d_X10_standing_8
