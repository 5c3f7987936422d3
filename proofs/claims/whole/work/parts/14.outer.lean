def y_X9_arch : MethodName := ⟨"WaterOthers", "arch", "(IZ)I"⟩
def y_X9_gap : MethodName := ⟨"WaterOthers", "gap", "(I)I"⟩
def y_X9_walker : MethodName := ⟨"WaterOthers", "walker", "(III)I"⟩
def y_X9_leave : MethodName := ⟨"WaterOthers", "leave", "(I)I"⟩
def y_X9_say : MethodName := ⟨"WaterOthers", "say", "(I)I"⟩
def y_X9_wipe : MethodName := ⟨"WaterOthers", "wipe", "()I"⟩
def y_X9_fault : MethodName := ⟨"WaterOthers", "fault", "()I"⟩
def y_X9_judge : MethodName := ⟨"WaterOthers", "judge", "(I)I"⟩
def y_X9_done : MethodName := ⟨"WaterOthers", "done", "()I"⟩
def y_X9_behind : MethodName := ⟨"WaterOthers", "behind", "(II)I"⟩
def y_X9_then : MethodName := ⟨"WaterOthers", "then", "(I)I"⟩
def y_X9_standing : MethodName := ⟨"WaterOthers", "standing", "(II)I"⟩
def y_X9_trip : MethodName := ⟨"WaterOthers", "trip", "(III)I"⟩
def y_X9_meeting : MethodName := ⟨"WaterOthers", "meeting", "(LWaterOthers$Walker;Z)I"⟩
def y_X9_again : MethodName := ⟨"WaterOthers", "again", "(II)I"⟩
def y_X9_order : MethodName := ⟨"WaterOthers", "order", "(III)I"⟩
def y_X9_seen : MethodName := ⟨"WaterOthers", "seen", "(II)I"⟩
def y_X9_forget : MethodName := ⟨"WaterOthers", "forget", "()I"⟩
def y_X9_fits : MethodName := ⟨"WaterOthers", "fits", "(I)I"⟩
def y_X9_ask : MethodName := ⟨"WaterOthers", "ask", "(I)I"⟩
def y_X9_canBeginnerWin : MethodName := ⟨"WaterOthers", "canBeginnerWin", "(II)Z"⟩
def y_X9_winningTimes : MethodName := ⟨"WaterOthers", "winningTimes", "(II)I"⟩
def y_X9_lengths : MethodName := ⟨"WaterOthers", "lengths", "(III)I"⟩
def y_X9_commonDivisor : MethodName := ⟨"WaterOthers", "commonDivisor", "(JJ)J"⟩
def y_X9_calm : MethodName := ⟨"WaterOthers", "calm", "(IIIII)J"⟩
def y_X9_drawYear : MethodName := ⟨"WaterOthers", "drawYear", "(LWaterOthers$Reach;II)V"⟩
def y_X9_year : MethodName := ⟨"WaterOthers", "year", "(III)I"⟩
def y_X9_image : MethodName := ⟨"WaterOthers", "image", "(I)I"⟩
def y_X9_restore : MethodName := ⟨"WaterOthers", "restore", "(I)I"⟩
def y_X9_toldOfWalker : MethodName := ⟨"WaterOthers", "toldOfWalker", "(LWaterOthers$Walker;I)I"⟩
def y_X9_told : MethodName := ⟨"WaterOthers", "told", "(I)I"⟩
theorem d_X9_arch_0 : q_dec prog_1_method_2_code 0 (.iload_n 1) 1 1 := ⟨by decide +kernel, rfl⟩
theorem d_X9_arch_1 : q_dec prog_1_method_2_code 1 (.invokestatic 66) 3 4 := ⟨by decide +kernel, rfl⟩
theorem d_X9_arch_4 : q_dec prog_1_method_2_code 4 (.ifCond .ne 5) 3 7 := ⟨by decide +kernel, rfl⟩
theorem d_X9_arch_7 : q_dec prog_1_method_2_code 7 (.iconst (-1)) 1 8 := ⟨by decide +kernel, rfl⟩
theorem d_X9_arch_8 : q_dec prog_1_method_2_code 8 (.ireturn) 1 9 := ⟨by decide +kernel, rfl⟩
theorem d_X9_arch_9 : q_dec prog_1_method_2_code 9 (.aload_n 0) 1 10 := ⟨by decide +kernel, rfl⟩
theorem d_X9_arch_10 : q_dec prog_1_method_2_code 10 (.getfield 19) 3 13 := ⟨by decide +kernel, rfl⟩
theorem d_X9_arch_13 : q_dec prog_1_method_2_code 13 (.iload_n 2) 1 14 := ⟨by decide +kernel, rfl⟩
theorem d_X9_arch_14 : q_dec prog_1_method_2_code 14 (.ifCond .eq 17) 3 17 := ⟨by decide +kernel, rfl⟩
theorem d_X9_arch_17 : q_dec prog_1_method_2_code 17 (.aload_n 0) 1 18 := ⟨by decide +kernel, rfl⟩
theorem d_X9_arch_18 : q_dec prog_1_method_2_code 18 (.getfield 19) 3 21 := ⟨by decide +kernel, rfl⟩
theorem d_X9_arch_21 : q_dec prog_1_method_2_code 21 (.getfield 70) 3 24 := ⟨by decide +kernel, rfl⟩
theorem d_X9_arch_24 : q_dec prog_1_method_2_code 24 (.iconst 1) 1 25 := ⟨by decide +kernel, rfl⟩
theorem d_X9_arch_25 : q_dec prog_1_method_2_code 25 (.iload_n 1) 1 26 := ⟨by decide +kernel, rfl⟩
theorem d_X9_arch_26 : q_dec prog_1_method_2_code 26 (.ishl) 1 27 := ⟨by decide +kernel, rfl⟩
theorem d_X9_arch_27 : q_dec prog_1_method_2_code 27 (.ior) 1 28 := ⟨by decide +kernel, rfl⟩
theorem d_X9_arch_28 : q_dec prog_1_method_2_code 28 (.goto 16) 3 31 := ⟨by decide +kernel, rfl⟩
theorem d_X9_arch_31 : q_dec prog_1_method_2_code 31 (.aload_n 0) 1 32 := ⟨by decide +kernel, rfl⟩
theorem d_X9_arch_32 : q_dec prog_1_method_2_code 32 (.getfield 19) 3 35 := ⟨by decide +kernel, rfl⟩
theorem d_X9_arch_35 : q_dec prog_1_method_2_code 35 (.getfield 70) 3 38 := ⟨by decide +kernel, rfl⟩
theorem d_X9_arch_38 : q_dec prog_1_method_2_code 38 (.iconst 1) 1 39 := ⟨by decide +kernel, rfl⟩
theorem d_X9_arch_39 : q_dec prog_1_method_2_code 39 (.iload_n 1) 1 40 := ⟨by decide +kernel, rfl⟩
theorem d_X9_arch_40 : q_dec prog_1_method_2_code 40 (.ishl) 1 41 := ⟨by decide +kernel, rfl⟩
theorem d_X9_arch_41 : q_dec prog_1_method_2_code 41 (.iconst (-1)) 1 42 := ⟨by decide +kernel, rfl⟩
theorem d_X9_arch_42 : q_dec prog_1_method_2_code 42 (.ixor) 1 43 := ⟨by decide +kernel, rfl⟩
theorem d_X9_arch_43 : q_dec prog_1_method_2_code 43 (.iand) 1 44 := ⟨by decide +kernel, rfl⟩
theorem d_X9_arch_44 : q_dec prog_1_method_2_code 44 (.putfield 70) 3 47 := ⟨by decide +kernel, rfl⟩
theorem d_X9_arch_47 : q_dec prog_1_method_2_code 47 (.aload_n 0) 1 48 := ⟨by decide +kernel, rfl⟩
theorem d_X9_arch_48 : q_dec prog_1_method_2_code 48 (.getfield 19) 3 51 := ⟨by decide +kernel, rfl⟩
theorem d_X9_arch_51 : q_dec prog_1_method_2_code 51 (.getfield 70) 3 54 := ⟨by decide +kernel, rfl⟩
theorem d_X9_arch_54 : q_dec prog_1_method_2_code 54 (.ireturn) 1 55 := ⟨by decide +kernel, rfl⟩
theorem m_X9_arch : q_wV y_X9_arch prog_1_method_2_code 3 (some .int) 2 := ⟨q_mem 285 (by decide +kernel) (by decide +kernel), q_mem 283 (by decide +kernel) (by decide +kernel), q_mem 284 (by decide +kernel) (by decide +kernel), q_mem 1 (by decide +kernel) (by decide +kernel), by decide +kernel⟩
theorem d_X9_gap_0 : q_dec prog_1_method_3_code 0 (.iload_n 1) 1 1 := ⟨by decide +kernel, rfl⟩
theorem d_X9_gap_1 : q_dec prog_1_method_3_code 1 (.iconst 0) 1 2 := ⟨by decide +kernel, rfl⟩
theorem d_X9_gap_2 : q_dec prog_1_method_3_code 2 (.bipush 19) 2 4 := ⟨by decide +kernel, rfl⟩
theorem d_X9_gap_4 : q_dec prog_1_method_3_code 4 (.invokestatic 74) 3 7 := ⟨by decide +kernel, rfl⟩
theorem d_X9_gap_7 : q_dec prog_1_method_3_code 7 (.ifCond .ne 6) 3 10 := ⟨by decide +kernel, rfl⟩
theorem d_X9_gap_10 : q_dec prog_1_method_3_code 10 (.bipush (-2)) 2 12 := ⟨by decide +kernel, rfl⟩
theorem d_X9_gap_12 : q_dec prog_1_method_3_code 12 (.ireturn) 1 13 := ⟨by decide +kernel, rfl⟩
theorem d_X9_gap_13 : q_dec prog_1_method_3_code 13 (.aload_n 0) 1 14 := ⟨by decide +kernel, rfl⟩
theorem d_X9_gap_14 : q_dec prog_1_method_3_code 14 (.getfield 19) 3 17 := ⟨by decide +kernel, rfl⟩
theorem d_X9_gap_17 : q_dec prog_1_method_3_code 17 (.getfield 78) 3 20 := ⟨by decide +kernel, rfl⟩
theorem d_X9_gap_20 : q_dec prog_1_method_3_code 20 (.istore_n 2) 1 21 := ⟨by decide +kernel, rfl⟩
theorem d_X9_gap_21 : q_dec prog_1_method_3_code 21 (.aload_n 0) 1 22 := ⟨by decide +kernel, rfl⟩
theorem d_X9_gap_22 : q_dec prog_1_method_3_code 22 (.getfield 19) 3 25 := ⟨by decide +kernel, rfl⟩
theorem d_X9_gap_25 : q_dec prog_1_method_3_code 25 (.iload_n 1) 1 26 := ⟨by decide +kernel, rfl⟩
theorem d_X9_gap_26 : q_dec prog_1_method_3_code 26 (.putfield 78) 3 29 := ⟨by decide +kernel, rfl⟩
theorem d_X9_gap_29 : q_dec prog_1_method_3_code 29 (.iload_n 2) 1 30 := ⟨by decide +kernel, rfl⟩
theorem d_X9_gap_30 : q_dec prog_1_method_3_code 30 (.ireturn) 1 31 := ⟨by decide +kernel, rfl⟩
theorem m_X9_gap : q_wV y_X9_gap prog_1_method_3_code 3 (some .int) 1 := ⟨q_mem 295 (by decide +kernel) (by decide +kernel), q_mem 293 (by decide +kernel) (by decide +kernel), q_mem 294 (by decide +kernel) (by decide +kernel), q_mem 1 (by decide +kernel) (by decide +kernel), by decide +kernel⟩
theorem d_X9_walker_0 : q_dec prog_1_method_4_code 0 (.iload_n 1) 1 1 := ⟨by decide +kernel, rfl⟩
theorem d_X9_walker_1 : q_dec prog_1_method_4_code 1 (.iconst 0) 1 2 := ⟨by decide +kernel, rfl⟩
theorem d_X9_walker_2 : q_dec prog_1_method_4_code 2 (.iconst 5) 1 3 := ⟨by decide +kernel, rfl⟩
theorem d_X9_walker_3 : q_dec prog_1_method_4_code 3 (.invokestatic 74) 3 6 := ⟨by decide +kernel, rfl⟩
theorem d_X9_walker_6 : q_dec prog_1_method_4_code 6 (.ifCond .eq 10) 3 9 := ⟨by decide +kernel, rfl⟩
theorem d_X9_walker_9 : q_dec prog_1_method_4_code 9 (.iload_n 2) 1 10 := ⟨by decide +kernel, rfl⟩
theorem d_X9_walker_10 : q_dec prog_1_method_4_code 10 (.invokestatic 66) 3 13 := ⟨by decide +kernel, rfl⟩
theorem d_X9_walker_13 : q_dec prog_1_method_4_code 13 (.ifCond .ne 5) 3 16 := ⟨by decide +kernel, rfl⟩
theorem d_X9_walker_16 : q_dec prog_1_method_4_code 16 (.iconst (-1)) 1 17 := ⟨by decide +kernel, rfl⟩
theorem d_X9_walker_17 : q_dec prog_1_method_4_code 17 (.ireturn) 1 18 := ⟨by decide +kernel, rfl⟩
theorem d_X9_walker_18 : q_dec prog_1_method_4_code 18 (.iload_n 3) 1 19 := ⟨by decide +kernel, rfl⟩
theorem d_X9_walker_19 : q_dec prog_1_method_4_code 19 (.iconst 0) 1 20 := ⟨by decide +kernel, rfl⟩
theorem d_X9_walker_20 : q_dec prog_1_method_4_code 20 (.iconst 5) 1 21 := ⟨by decide +kernel, rfl⟩
theorem d_X9_walker_21 : q_dec prog_1_method_4_code 21 (.invokestatic 74) 3 24 := ⟨by decide +kernel, rfl⟩
theorem d_X9_walker_24 : q_dec prog_1_method_4_code 24 (.ifCond .ne 6) 3 27 := ⟨by decide +kernel, rfl⟩
theorem d_X9_walker_27 : q_dec prog_1_method_4_code 27 (.bipush (-2)) 2 29 := ⟨by decide +kernel, rfl⟩
theorem d_X9_walker_29 : q_dec prog_1_method_4_code 29 (.ireturn) 1 30 := ⟨by decide +kernel, rfl⟩
theorem d_X9_walker_30 : q_dec prog_1_method_4_code 30 (.aload_n 0) 1 31 := ⟨by decide +kernel, rfl⟩
theorem d_X9_walker_31 : q_dec prog_1_method_4_code 31 (.getfield 19) 3 34 := ⟨by decide +kernel, rfl⟩
theorem d_X9_walker_34 : q_dec prog_1_method_4_code 34 (.getfield 81) 3 37 := ⟨by decide +kernel, rfl⟩
theorem d_X9_walker_37 : q_dec prog_1_method_4_code 37 (.iload_n 1) 1 38 := ⟨by decide +kernel, rfl⟩
theorem d_X9_walker_38 : q_dec prog_1_method_4_code 38 (.aaload) 1 39 := ⟨by decide +kernel, rfl⟩
theorem d_X9_walker_39 : q_dec prog_1_method_4_code 39 (.iload_n 2) 1 40 := ⟨by decide +kernel, rfl⟩
theorem d_X9_walker_40 : q_dec prog_1_method_4_code 40 (.iload_n 3) 1 41 := ⟨by decide +kernel, rfl⟩
theorem d_X9_walker_41 : q_dec prog_1_method_4_code 41 (.invokevirtual 85) 3 44 := ⟨by decide +kernel, rfl⟩
theorem d_X9_walker_44 : q_dec prog_1_method_4_code 44 (.aload_n 0) 1 45 := ⟨by decide +kernel, rfl⟩
theorem d_X9_walker_45 : q_dec prog_1_method_4_code 45 (.getfield 19) 3 48 := ⟨by decide +kernel, rfl⟩
theorem d_X9_walker_48 : q_dec prog_1_method_4_code 48 (.invokevirtual 91) 3 51 := ⟨by decide +kernel, rfl⟩
theorem d_X9_walker_51 : q_dec prog_1_method_4_code 51 (.invokestatic 95) 3 54 := ⟨by decide +kernel, rfl⟩
theorem d_X9_walker_54 : q_dec prog_1_method_4_code 54 (.ireturn) 1 55 := ⟨by decide +kernel, rfl⟩
theorem m_X9_walker : q_wV y_X9_walker prog_1_method_4_code 4 (some .int) 3 := ⟨q_mem 299 (by decide +kernel) (by decide +kernel), q_mem 297 (by decide +kernel) (by decide +kernel), q_mem 298 (by decide +kernel) (by decide +kernel), q_mem 1 (by decide +kernel) (by decide +kernel), by decide +kernel⟩
theorem d_X9_leave_0 : q_dec prog_1_method_5_code 0 (.aload_n 0) 1 1 := ⟨by decide +kernel, rfl⟩
theorem d_X9_leave_1 : q_dec prog_1_method_5_code 1 (.getfield 19) 3 4 := ⟨by decide +kernel, rfl⟩
theorem d_X9_leave_4 : q_dec prog_1_method_5_code 4 (.iload_n 1) 1 5 := ⟨by decide +kernel, rfl⟩
theorem d_X9_leave_5 : q_dec prog_1_method_5_code 5 (.invokevirtual 101) 3 8 := ⟨by decide +kernel, rfl⟩
theorem d_X9_leave_8 : q_dec prog_1_method_5_code 8 (.ifCond .ne 5) 3 11 := ⟨by decide +kernel, rfl⟩
theorem d_X9_leave_11 : q_dec prog_1_method_5_code 11 (.iconst (-1)) 1 12 := ⟨by decide +kernel, rfl⟩
theorem d_X9_leave_12 : q_dec prog_1_method_5_code 12 (.ireturn) 1 13 := ⟨by decide +kernel, rfl⟩
theorem d_X9_leave_13 : q_dec prog_1_method_5_code 13 (.aload_n 0) 1 14 := ⟨by decide +kernel, rfl⟩
theorem d_X9_leave_14 : q_dec prog_1_method_5_code 14 (.getfield 19) 3 17 := ⟨by decide +kernel, rfl⟩
theorem d_X9_leave_17 : q_dec prog_1_method_5_code 17 (.getfield 81) 3 20 := ⟨by decide +kernel, rfl⟩
theorem d_X9_leave_20 : q_dec prog_1_method_5_code 20 (.iload_n 1) 1 21 := ⟨by decide +kernel, rfl⟩
theorem d_X9_leave_21 : q_dec prog_1_method_5_code 21 (.aaload) 1 22 := ⟨by decide +kernel, rfl⟩
theorem d_X9_leave_22 : q_dec prog_1_method_5_code 22 (.iconst 0) 1 23 := ⟨by decide +kernel, rfl⟩
theorem d_X9_leave_23 : q_dec prog_1_method_5_code 23 (.putfield 104) 3 26 := ⟨by decide +kernel, rfl⟩
theorem d_X9_leave_26 : q_dec prog_1_method_5_code 26 (.aload_n 0) 1 27 := ⟨by decide +kernel, rfl⟩
theorem d_X9_leave_27 : q_dec prog_1_method_5_code 27 (.getfield 19) 3 30 := ⟨by decide +kernel, rfl⟩
theorem d_X9_leave_30 : q_dec prog_1_method_5_code 30 (.invokevirtual 91) 3 33 := ⟨by decide +kernel, rfl⟩
theorem d_X9_leave_33 : q_dec prog_1_method_5_code 33 (.invokestatic 95) 3 36 := ⟨by decide +kernel, rfl⟩
theorem d_X9_leave_36 : q_dec prog_1_method_5_code 36 (.ireturn) 1 37 := ⟨by decide +kernel, rfl⟩
theorem m_X9_leave : q_wV y_X9_leave prog_1_method_5_code 2 (some .int) 1 := ⟨q_mem 324 (by decide +kernel) (by decide +kernel), q_mem 322 (by decide +kernel) (by decide +kernel), q_mem 323 (by decide +kernel) (by decide +kernel), q_mem 1 (by decide +kernel) (by decide +kernel), by decide +kernel⟩
theorem d_X9_say_0 : q_dec prog_1_method_6_code 0 (.iload_n 1) 1 1 := ⟨by decide +kernel, rfl⟩
theorem d_X9_say_1 : q_dec prog_1_method_6_code 1 (.bipush 33) 2 3 := ⟨by decide +kernel, rfl⟩
theorem d_X9_say_3 : q_dec prog_1_method_6_code 3 (.bipush 126) 2 5 := ⟨by decide +kernel, rfl⟩
theorem d_X9_say_5 : q_dec prog_1_method_6_code 5 (.invokestatic 74) 3 8 := ⟨by decide +kernel, rfl⟩
theorem d_X9_say_8 : q_dec prog_1_method_6_code 8 (.ifCond .ne 6) 3 11 := ⟨by decide +kernel, rfl⟩
theorem d_X9_say_11 : q_dec prog_1_method_6_code 11 (.bipush (-2)) 2 13 := ⟨by decide +kernel, rfl⟩
theorem d_X9_say_13 : q_dec prog_1_method_6_code 13 (.ireturn) 1 14 := ⟨by decide +kernel, rfl⟩
theorem d_X9_say_14 : q_dec prog_1_method_6_code 14 (.aload_n 0) 1 15 := ⟨by decide +kernel, rfl⟩
theorem d_X9_say_15 : q_dec prog_1_method_6_code 15 (.getfield 10) 3 18 := ⟨by decide +kernel, rfl⟩
theorem d_X9_say_18 : q_dec prog_1_method_6_code 18 (.iload_n 1) 1 19 := ⟨by decide +kernel, rfl⟩
theorem d_X9_say_19 : q_dec prog_1_method_6_code 19 (.invokevirtual 108) 3 22 := ⟨by decide +kernel, rfl⟩
theorem d_X9_say_22 : q_dec prog_1_method_6_code 22 (.ifCond .eq 13) 3 25 := ⟨by decide +kernel, rfl⟩
theorem d_X9_say_25 : q_dec prog_1_method_6_code 25 (.aload_n 0) 1 26 := ⟨by decide +kernel, rfl⟩
theorem d_X9_say_26 : q_dec prog_1_method_6_code 26 (.getfield 10) 3 29 := ⟨by decide +kernel, rfl⟩
theorem d_X9_say_29 : q_dec prog_1_method_6_code 29 (.getfield 111) 3 32 := ⟨by decide +kernel, rfl⟩
theorem d_X9_say_32 : q_dec prog_1_method_6_code 32 (.goto 5) 3 35 := ⟨by decide +kernel, rfl⟩
theorem d_X9_say_35 : q_dec prog_1_method_6_code 35 (.bipush (-4)) 2 37 := ⟨by decide +kernel, rfl⟩
theorem d_X9_say_37 : q_dec prog_1_method_6_code 37 (.ireturn) 1 38 := ⟨by decide +kernel, rfl⟩
theorem m_X9_say : q_wV y_X9_say prog_1_method_6_code 2 (some .int) 1 := ⟨q_mem 333 (by decide +kernel) (by decide +kernel), q_mem 331 (by decide +kernel) (by decide +kernel), q_mem 332 (by decide +kernel) (by decide +kernel), q_mem 1 (by decide +kernel) (by decide +kernel), by decide +kernel⟩
theorem d_X9_wipe_0 : q_dec prog_1_method_7_code 0 (.aload_n 0) 1 1 := ⟨by decide +kernel, rfl⟩
theorem d_X9_wipe_1 : q_dec prog_1_method_7_code 1 (.getfield 10) 3 4 := ⟨by decide +kernel, rfl⟩
theorem d_X9_wipe_4 : q_dec prog_1_method_7_code 4 (.invokevirtual 114) 3 7 := ⟨by decide +kernel, rfl⟩
theorem d_X9_wipe_7 : q_dec prog_1_method_7_code 7 (.ireturn) 1 8 := ⟨by decide +kernel, rfl⟩
theorem m_X9_wipe : q_wV y_X9_wipe prog_1_method_7_code 1 (some .int) 0 := ⟨q_mem 341 (by decide +kernel) (by decide +kernel), q_mem 339 (by decide +kernel) (by decide +kernel), q_mem 340 (by decide +kernel) (by decide +kernel), q_mem 1 (by decide +kernel) (by decide +kernel), by decide +kernel⟩
theorem d_X9_fault_0 : q_dec prog_1_method_8_code 0 (.aload_n 0) 1 1 := ⟨by decide +kernel, rfl⟩
theorem d_X9_fault_1 : q_dec prog_1_method_8_code 1 (.getfield 10) 3 4 := ⟨by decide +kernel, rfl⟩
theorem d_X9_fault_4 : q_dec prog_1_method_8_code 4 (.invokevirtual 117) 3 7 := ⟨by decide +kernel, rfl⟩
theorem d_X9_fault_7 : q_dec prog_1_method_8_code 7 (.ireturn) 1 8 := ⟨by decide +kernel, rfl⟩
theorem m_X9_fault : q_wV y_X9_fault prog_1_method_8_code 1 (some .int) 0 := ⟨q_mem 349 (by decide +kernel) (by decide +kernel), q_mem 347 (by decide +kernel) (by decide +kernel), q_mem 348 (by decide +kernel) (by decide +kernel), q_mem 1 (by decide +kernel) (by decide +kernel), by decide +kernel⟩
theorem d_X9_judge_0 : q_dec prog_1_method_9_code 0 (.iload_n 1) 1 1 := ⟨by decide +kernel, rfl⟩
theorem d_X9_judge_1 : q_dec prog_1_method_9_code 1 (.iconst 0) 1 2 := ⟨by decide +kernel, rfl⟩
theorem d_X9_judge_2 : q_dec prog_1_method_9_code 2 (.iconst 1) 1 3 := ⟨by decide +kernel, rfl⟩
theorem d_X9_judge_3 : q_dec prog_1_method_9_code 3 (.invokestatic 74) 3 6 := ⟨by decide +kernel, rfl⟩
theorem d_X9_judge_6 : q_dec prog_1_method_9_code 6 (.ifCond .ne 6) 3 9 := ⟨by decide +kernel, rfl⟩
theorem d_X9_judge_9 : q_dec prog_1_method_9_code 9 (.bipush (-2)) 2 11 := ⟨by decide +kernel, rfl⟩
theorem d_X9_judge_11 : q_dec prog_1_method_9_code 11 (.ireturn) 1 12 := ⟨by decide +kernel, rfl⟩
theorem d_X9_judge_12 : q_dec prog_1_method_9_code 12 (.aload_n 0) 1 13 := ⟨by decide +kernel, rfl⟩
theorem d_X9_judge_13 : q_dec prog_1_method_9_code 13 (.getfield 26) 3 16 := ⟨by decide +kernel, rfl⟩
theorem d_X9_judge_16 : q_dec prog_1_method_9_code 16 (.aload_n 0) 1 17 := ⟨by decide +kernel, rfl⟩
theorem d_X9_judge_17 : q_dec prog_1_method_9_code 17 (.getfield 10) 3 20 := ⟨by decide +kernel, rfl⟩
theorem d_X9_judge_20 : q_dec prog_1_method_9_code 20 (.aload_n 0) 1 21 := ⟨by decide +kernel, rfl⟩
theorem d_X9_judge_21 : q_dec prog_1_method_9_code 21 (.getfield 19) 3 24 := ⟨by decide +kernel, rfl⟩
theorem d_X9_judge_24 : q_dec prog_1_method_9_code 24 (.invokevirtual 120) 3 27 := ⟨by decide +kernel, rfl⟩
theorem d_X9_judge_27 : q_dec prog_1_method_9_code 27 (.aload_n 0) 1 28 := ⟨by decide +kernel, rfl⟩
theorem d_X9_judge_28 : q_dec prog_1_method_9_code 28 (.getfield 26) 3 31 := ⟨by decide +kernel, rfl⟩
theorem d_X9_judge_31 : q_dec prog_1_method_9_code 31 (.getfield 124) 3 34 := ⟨by decide +kernel, rfl⟩
theorem d_X9_judge_34 : q_dec prog_1_method_9_code 34 (.ifCond .eq 6) 3 37 := ⟨by decide +kernel, rfl⟩
theorem d_X9_judge_37 : q_dec prog_1_method_9_code 37 (.bipush (-5)) 2 39 := ⟨by decide +kernel, rfl⟩
theorem d_X9_judge_39 : q_dec prog_1_method_9_code 39 (.ireturn) 1 40 := ⟨by decide +kernel, rfl⟩
theorem d_X9_judge_40 : q_dec prog_1_method_9_code 40 (.iload_n 1) 1 41 := ⟨by decide +kernel, rfl⟩
theorem d_X9_judge_41 : q_dec prog_1_method_9_code 41 (.ifCond .ne 13) 3 44 := ⟨by decide +kernel, rfl⟩
theorem d_X9_judge_44 : q_dec prog_1_method_9_code 44 (.aload_n 0) 1 45 := ⟨by decide +kernel, rfl⟩
theorem d_X9_judge_45 : q_dec prog_1_method_9_code 45 (.getfield 26) 3 48 := ⟨by decide +kernel, rfl⟩
theorem d_X9_judge_48 : q_dec prog_1_method_9_code 48 (.getfield 127) 3 51 := ⟨by decide +kernel, rfl⟩
theorem d_X9_judge_51 : q_dec prog_1_method_9_code 51 (.goto 10) 3 54 := ⟨by decide +kernel, rfl⟩
theorem d_X9_judge_54 : q_dec prog_1_method_9_code 54 (.aload_n 0) 1 55 := ⟨by decide +kernel, rfl⟩
theorem d_X9_judge_55 : q_dec prog_1_method_9_code 55 (.getfield 26) 3 58 := ⟨by decide +kernel, rfl⟩
theorem d_X9_judge_58 : q_dec prog_1_method_9_code 58 (.getfield 130) 3 61 := ⟨by decide +kernel, rfl⟩
theorem d_X9_judge_61 : q_dec prog_1_method_9_code 61 (.ireturn) 1 62 := ⟨by decide +kernel, rfl⟩
theorem m_X9_judge : q_wV y_X9_judge prog_1_method_9_code 2 (some .int) 1 := ⟨q_mem 367 (by decide +kernel) (by decide +kernel), q_mem 365 (by decide +kernel) (by decide +kernel), q_mem 366 (by decide +kernel) (by decide +kernel), q_mem 1 (by decide +kernel) (by decide +kernel), by decide +kernel⟩
theorem d_X9_done_0 : q_dec prog_1_method_10_code 0 (.aload_n 0) 1 1 := ⟨by decide +kernel, rfl⟩
theorem d_X9_done_1 : q_dec prog_1_method_10_code 1 (.getfield 26) 3 4 := ⟨by decide +kernel, rfl⟩
theorem d_X9_done_4 : q_dec prog_1_method_10_code 4 (.aload_n 0) 1 5 := ⟨by decide +kernel, rfl⟩
theorem d_X9_done_5 : q_dec prog_1_method_10_code 5 (.getfield 10) 3 8 := ⟨by decide +kernel, rfl⟩
theorem d_X9_done_8 : q_dec prog_1_method_10_code 8 (.aload_n 0) 1 9 := ⟨by decide +kernel, rfl⟩
theorem d_X9_done_9 : q_dec prog_1_method_10_code 9 (.getfield 19) 3 12 := ⟨by decide +kernel, rfl⟩
theorem d_X9_done_12 : q_dec prog_1_method_10_code 12 (.invokevirtual 120) 3 15 := ⟨by decide +kernel, rfl⟩
theorem d_X9_done_15 : q_dec prog_1_method_10_code 15 (.aload_n 0) 1 16 := ⟨by decide +kernel, rfl⟩
theorem d_X9_done_16 : q_dec prog_1_method_10_code 16 (.getfield 26) 3 19 := ⟨by decide +kernel, rfl⟩
theorem d_X9_done_19 : q_dec prog_1_method_10_code 19 (.getfield 133) 3 22 := ⟨by decide +kernel, rfl⟩
theorem d_X9_done_22 : q_dec prog_1_method_10_code 22 (.ifCond .ne 6) 3 25 := ⟨by decide +kernel, rfl⟩
theorem d_X9_done_25 : q_dec prog_1_method_10_code 25 (.bipush (-5)) 2 27 := ⟨by decide +kernel, rfl⟩
theorem d_X9_done_27 : q_dec prog_1_method_10_code 27 (.ireturn) 1 28 := ⟨by decide +kernel, rfl⟩
theorem d_X9_done_28 : q_dec prog_1_method_10_code 28 (.aload_n 0) 1 29 := ⟨by decide +kernel, rfl⟩
theorem d_X9_done_29 : q_dec prog_1_method_10_code 29 (.getfield 19) 3 32 := ⟨by decide +kernel, rfl⟩
theorem d_X9_done_32 : q_dec prog_1_method_10_code 32 (.aload_n 0) 1 33 := ⟨by decide +kernel, rfl⟩
theorem d_X9_done_33 : q_dec prog_1_method_10_code 33 (.getfield 26) 3 36 := ⟨by decide +kernel, rfl⟩
theorem d_X9_done_36 : q_dec prog_1_method_10_code 36 (.getfield 136) 3 39 := ⟨by decide +kernel, rfl⟩
theorem d_X9_done_39 : q_dec prog_1_method_10_code 39 (.invokevirtual 139) 3 42 := ⟨by decide +kernel, rfl⟩
theorem d_X9_done_42 : q_dec prog_1_method_10_code 42 (.aload_n 0) 1 43 := ⟨by decide +kernel, rfl⟩
theorem d_X9_done_43 : q_dec prog_1_method_10_code 43 (.getfield 10) 3 46 := ⟨by decide +kernel, rfl⟩
theorem d_X9_done_46 : q_dec prog_1_method_10_code 46 (.invokevirtual 114) 3 49 := ⟨by decide +kernel, rfl⟩
theorem d_X9_done_49 : q_dec prog_1_method_10_code 49 (.pop) 1 50 := ⟨by decide +kernel, rfl⟩
theorem d_X9_done_50 : q_dec prog_1_method_10_code 50 (.aload_n 0) 1 51 := ⟨by decide +kernel, rfl⟩
theorem d_X9_done_51 : q_dec prog_1_method_10_code 51 (.getfield 26) 3 54 := ⟨by decide +kernel, rfl⟩
theorem d_X9_done_54 : q_dec prog_1_method_10_code 54 (.getfield 143) 3 57 := ⟨by decide +kernel, rfl⟩
theorem d_X9_done_57 : q_dec prog_1_method_10_code 57 (.ireturn) 1 58 := ⟨by decide +kernel, rfl⟩
theorem m_X9_done : q_wV y_X9_done prog_1_method_10_code 1 (some .int) 0 := ⟨q_mem 467 (by decide +kernel) (by decide +kernel), q_mem 465 (by decide +kernel) (by decide +kernel), q_mem 466 (by decide +kernel) (by decide +kernel), q_mem 1 (by decide +kernel) (by decide +kernel), by decide +kernel⟩
theorem d_X9_behind_0 : q_dec prog_1_method_11_code 0 (.aload_n 0) 1 1 := ⟨by decide +kernel, rfl⟩
theorem d_X9_behind_1 : q_dec prog_1_method_11_code 1 (.getfield 19) 3 4 := ⟨by decide +kernel, rfl⟩
theorem d_X9_behind_4 : q_dec prog_1_method_11_code 4 (.iload_n 1) 1 5 := ⟨by decide +kernel, rfl⟩
theorem d_X9_behind_5 : q_dec prog_1_method_11_code 5 (.invokevirtual 101) 3 8 := ⟨by decide +kernel, rfl⟩
theorem d_X9_behind_8 : q_dec prog_1_method_11_code 8 (.ifCond .ne 5) 3 11 := ⟨by decide +kernel, rfl⟩
theorem d_X9_behind_11 : q_dec prog_1_method_11_code 11 (.iconst (-1)) 1 12 := ⟨by decide +kernel, rfl⟩
theorem d_X9_behind_12 : q_dec prog_1_method_11_code 12 (.ireturn) 1 13 := ⟨by decide +kernel, rfl⟩
theorem d_X9_behind_13 : q_dec prog_1_method_11_code 13 (.iload_n 2) 1 14 := ⟨by decide +kernel, rfl⟩
theorem d_X9_behind_14 : q_dec prog_1_method_11_code 14 (.iconst 0) 1 15 := ⟨by decide +kernel, rfl⟩
theorem d_X9_behind_15 : q_dec prog_1_method_11_code 15 (.iconst 2) 1 16 := ⟨by decide +kernel, rfl⟩
theorem d_X9_behind_16 : q_dec prog_1_method_11_code 16 (.invokestatic 74) 3 19 := ⟨by decide +kernel, rfl⟩
theorem d_X9_behind_19 : q_dec prog_1_method_11_code 19 (.ifCond .ne 6) 3 22 := ⟨by decide +kernel, rfl⟩
theorem d_X9_behind_22 : q_dec prog_1_method_11_code 22 (.bipush (-2)) 2 24 := ⟨by decide +kernel, rfl⟩
theorem d_X9_behind_24 : q_dec prog_1_method_11_code 24 (.ireturn) 1 25 := ⟨by decide +kernel, rfl⟩
theorem d_X9_behind_25 : q_dec prog_1_method_11_code 25 (.aload_n 0) 1 26 := ⟨by decide +kernel, rfl⟩
theorem d_X9_behind_26 : q_dec prog_1_method_11_code 26 (.getfield 26) 3 29 := ⟨by decide +kernel, rfl⟩
theorem d_X9_behind_29 : q_dec prog_1_method_11_code 29 (.aload_n 0) 1 30 := ⟨by decide +kernel, rfl⟩
theorem d_X9_behind_30 : q_dec prog_1_method_11_code 30 (.getfield 10) 3 33 := ⟨by decide +kernel, rfl⟩
theorem d_X9_behind_33 : q_dec prog_1_method_11_code 33 (.aload_n 0) 1 34 := ⟨by decide +kernel, rfl⟩
theorem d_X9_behind_34 : q_dec prog_1_method_11_code 34 (.getfield 19) 3 37 := ⟨by decide +kernel, rfl⟩
theorem d_X9_behind_37 : q_dec prog_1_method_11_code 37 (.invokevirtual 120) 3 40 := ⟨by decide +kernel, rfl⟩
theorem d_X9_behind_40 : q_dec prog_1_method_11_code 40 (.aload_n 0) 1 41 := ⟨by decide +kernel, rfl⟩
theorem d_X9_behind_41 : q_dec prog_1_method_11_code 41 (.getfield 26) 3 44 := ⟨by decide +kernel, rfl⟩
theorem d_X9_behind_44 : q_dec prog_1_method_11_code 44 (.getfield 133) 3 47 := ⟨by decide +kernel, rfl⟩
theorem d_X9_behind_47 : q_dec prog_1_method_11_code 47 (.ifCond .ne 6) 3 50 := ⟨by decide +kernel, rfl⟩
theorem d_X9_behind_50 : q_dec prog_1_method_11_code 50 (.bipush (-5)) 2 52 := ⟨by decide +kernel, rfl⟩
theorem d_X9_behind_52 : q_dec prog_1_method_11_code 52 (.ireturn) 1 53 := ⟨by decide +kernel, rfl⟩
theorem d_X9_behind_53 : q_dec prog_1_method_11_code 53 (.aload_n 0) 1 54 := ⟨by decide +kernel, rfl⟩
theorem d_X9_behind_54 : q_dec prog_1_method_11_code 54 (.getfield 26) 3 57 := ⟨by decide +kernel, rfl⟩
theorem d_X9_behind_57 : q_dec prog_1_method_11_code 57 (.getfield 136) 3 60 := ⟨by decide +kernel, rfl⟩
theorem d_X9_behind_60 : q_dec prog_1_method_11_code 60 (.astore_n 3) 1 61 := ⟨by decide +kernel, rfl⟩
theorem d_X9_behind_61 : q_dec prog_1_method_11_code 61 (.aload_n 3) 1 62 := ⟨by decide +kernel, rfl⟩
theorem d_X9_behind_62 : q_dec prog_1_method_11_code 62 (.getfield 81) 3 65 := ⟨by decide +kernel, rfl⟩
theorem d_X9_behind_65 : q_dec prog_1_method_11_code 65 (.iload_n 1) 1 66 := ⟨by decide +kernel, rfl⟩
theorem d_X9_behind_66 : q_dec prog_1_method_11_code 66 (.aaload) 1 67 := ⟨by decide +kernel, rfl⟩
theorem d_X9_behind_67 : q_dec prog_1_method_11_code 67 (.astore 4) 2 69 := ⟨by decide +kernel, rfl⟩
theorem d_X9_behind_69 : q_dec prog_1_method_11_code 69 (.iload_n 2) 1 70 := ⟨by decide +kernel, rfl⟩
theorem d_X9_behind_70 : q_dec prog_1_method_11_code 70 (.lookupswitch 41 #[(0, 26), (1, 34)]) 26 96 := ⟨by decide +kernel, rfl⟩
theorem d_X9_behind_96 : q_dec prog_1_method_11_code 96 (.aload 4) 2 98 := ⟨by decide +kernel, rfl⟩
theorem d_X9_behind_98 : q_dec prog_1_method_11_code 98 (.getfield 146) 3 101 := ⟨by decide +kernel, rfl⟩
theorem d_X9_behind_101 : q_dec prog_1_method_11_code 101 (.iconst 0) 1 102 := ⟨by decide +kernel, rfl⟩
theorem d_X9_behind_102 : q_dec prog_1_method_11_code 102 (.iaload) 1 103 := ⟨by decide +kernel, rfl⟩
theorem d_X9_behind_103 : q_dec prog_1_method_11_code 103 (.ireturn) 1 104 := ⟨by decide +kernel, rfl⟩
theorem d_X9_behind_104 : q_dec prog_1_method_11_code 104 (.aload_n 3) 1 105 := ⟨by decide +kernel, rfl⟩
theorem d_X9_behind_105 : q_dec prog_1_method_11_code 105 (.aload 4) 2 107 := ⟨by decide +kernel, rfl⟩
theorem d_X9_behind_107 : q_dec prog_1_method_11_code 107 (.invokevirtual 150) 3 110 := ⟨by decide +kernel, rfl⟩
theorem d_X9_behind_110 : q_dec prog_1_method_11_code 110 (.ireturn) 1 111 := ⟨by decide +kernel, rfl⟩
theorem d_X9_behind_111 : q_dec prog_1_method_11_code 111 (.aload 4) 2 113 := ⟨by decide +kernel, rfl⟩
theorem d_X9_behind_113 : q_dec prog_1_method_11_code 113 (.getfield 154) 3 116 := ⟨by decide +kernel, rfl⟩
theorem d_X9_behind_116 : q_dec prog_1_method_11_code 116 (.ifCond .eq 7) 3 119 := ⟨by decide +kernel, rfl⟩
theorem d_X9_behind_119 : q_dec prog_1_method_11_code 119 (.iconst 1) 1 120 := ⟨by decide +kernel, rfl⟩
theorem d_X9_behind_120 : q_dec prog_1_method_11_code 120 (.goto 4) 3 123 := ⟨by decide +kernel, rfl⟩
theorem d_X9_behind_123 : q_dec prog_1_method_11_code 123 (.iconst 0) 1 124 := ⟨by decide +kernel, rfl⟩
theorem d_X9_behind_124 : q_dec prog_1_method_11_code 124 (.ireturn) 1 125 := ⟨by decide +kernel, rfl⟩
theorem m_X9_behind : q_wV y_X9_behind prog_1_method_11_code 5 (some .int) 2 := ⟨q_mem 472 (by decide +kernel) (by decide +kernel), q_mem 470 (by decide +kernel) (by decide +kernel), q_mem 471 (by decide +kernel) (by decide +kernel), q_mem 1 (by decide +kernel) (by decide +kernel), by decide +kernel⟩
theorem d_X9_then_0 : q_dec prog_1_method_12_code 0 (.iload_n 1) 1 1 := ⟨by decide +kernel, rfl⟩
theorem d_X9_then_1 : q_dec prog_1_method_12_code 1 (.iconst 0) 1 2 := ⟨by decide +kernel, rfl⟩
theorem d_X9_then_2 : q_dec prog_1_method_12_code 2 (.iconst 4) 1 3 := ⟨by decide +kernel, rfl⟩
theorem d_X9_then_3 : q_dec prog_1_method_12_code 3 (.invokestatic 74) 3 6 := ⟨by decide +kernel, rfl⟩
theorem d_X9_then_6 : q_dec prog_1_method_12_code 6 (.ifCond .ne 6) 3 9 := ⟨by decide +kernel, rfl⟩
theorem d_X9_then_9 : q_dec prog_1_method_12_code 9 (.bipush (-2)) 2 11 := ⟨by decide +kernel, rfl⟩
theorem d_X9_then_11 : q_dec prog_1_method_12_code 11 (.ireturn) 1 12 := ⟨by decide +kernel, rfl⟩
theorem d_X9_then_12 : q_dec prog_1_method_12_code 12 (.aload_n 0) 1 13 := ⟨by decide +kernel, rfl⟩
theorem d_X9_then_13 : q_dec prog_1_method_12_code 13 (.getfield 26) 3 16 := ⟨by decide +kernel, rfl⟩
theorem d_X9_then_16 : q_dec prog_1_method_12_code 16 (.aload_n 0) 1 17 := ⟨by decide +kernel, rfl⟩
theorem d_X9_then_17 : q_dec prog_1_method_12_code 17 (.getfield 10) 3 20 := ⟨by decide +kernel, rfl⟩
theorem d_X9_then_20 : q_dec prog_1_method_12_code 20 (.aload_n 0) 1 21 := ⟨by decide +kernel, rfl⟩
theorem d_X9_then_21 : q_dec prog_1_method_12_code 21 (.getfield 19) 3 24 := ⟨by decide +kernel, rfl⟩
theorem d_X9_then_24 : q_dec prog_1_method_12_code 24 (.invokevirtual 120) 3 27 := ⟨by decide +kernel, rfl⟩
theorem d_X9_then_27 : q_dec prog_1_method_12_code 27 (.aload_n 0) 1 28 := ⟨by decide +kernel, rfl⟩
theorem d_X9_then_28 : q_dec prog_1_method_12_code 28 (.getfield 26) 3 31 := ⟨by decide +kernel, rfl⟩
theorem d_X9_then_31 : q_dec prog_1_method_12_code 31 (.getfield 133) 3 34 := ⟨by decide +kernel, rfl⟩
theorem d_X9_then_34 : q_dec prog_1_method_12_code 34 (.ifCond .ne 6) 3 37 := ⟨by decide +kernel, rfl⟩
theorem d_X9_then_37 : q_dec prog_1_method_12_code 37 (.bipush (-5)) 2 39 := ⟨by decide +kernel, rfl⟩
theorem d_X9_then_39 : q_dec prog_1_method_12_code 39 (.ireturn) 1 40 := ⟨by decide +kernel, rfl⟩
theorem d_X9_then_40 : q_dec prog_1_method_12_code 40 (.iload_n 1) 1 41 := ⟨by decide +kernel, rfl⟩
theorem d_X9_then_41 : q_dec prog_1_method_12_code 41 (.tableswitch 80 0 3 #[31, 50, 61, 72]) 31 72 := ⟨by decide +kernel, rfl⟩
theorem d_X9_then_72 : q_dec prog_1_method_12_code 72 (.aload_n 0) 1 73 := ⟨by decide +kernel, rfl⟩
theorem d_X9_then_73 : q_dec prog_1_method_12_code 73 (.getfield 26) 3 76 := ⟨by decide +kernel, rfl⟩
theorem d_X9_then_76 : q_dec prog_1_method_12_code 76 (.getfield 136) 3 79 := ⟨by decide +kernel, rfl⟩
theorem d_X9_then_79 : q_dec prog_1_method_12_code 79 (.getfield 157) 3 82 := ⟨by decide +kernel, rfl⟩
theorem d_X9_then_82 : q_dec prog_1_method_12_code 82 (.ifCond .eq 7) 3 85 := ⟨by decide +kernel, rfl⟩
theorem d_X9_then_85 : q_dec prog_1_method_12_code 85 (.iconst 1) 1 86 := ⟨by decide +kernel, rfl⟩
theorem d_X9_then_86 : q_dec prog_1_method_12_code 86 (.goto 4) 3 89 := ⟨by decide +kernel, rfl⟩
theorem d_X9_then_89 : q_dec prog_1_method_12_code 89 (.iconst 0) 1 90 := ⟨by decide +kernel, rfl⟩
theorem d_X9_then_90 : q_dec prog_1_method_12_code 90 (.ireturn) 1 91 := ⟨by decide +kernel, rfl⟩
theorem d_X9_then_91 : q_dec prog_1_method_12_code 91 (.aload_n 0) 1 92 := ⟨by decide +kernel, rfl⟩
theorem d_X9_then_92 : q_dec prog_1_method_12_code 92 (.getfield 26) 3 95 := ⟨by decide +kernel, rfl⟩
theorem d_X9_then_95 : q_dec prog_1_method_12_code 95 (.getfield 136) 3 98 := ⟨by decide +kernel, rfl⟩
theorem d_X9_then_98 : q_dec prog_1_method_12_code 98 (.getfield 160) 3 101 := ⟨by decide +kernel, rfl⟩
theorem d_X9_then_101 : q_dec prog_1_method_12_code 101 (.ireturn) 1 102 := ⟨by decide +kernel, rfl⟩
theorem d_X9_then_102 : q_dec prog_1_method_12_code 102 (.aload_n 0) 1 103 := ⟨by decide +kernel, rfl⟩
theorem d_X9_then_103 : q_dec prog_1_method_12_code 103 (.getfield 26) 3 106 := ⟨by decide +kernel, rfl⟩
theorem d_X9_then_106 : q_dec prog_1_method_12_code 106 (.getfield 136) 3 109 := ⟨by decide +kernel, rfl⟩
theorem d_X9_then_109 : q_dec prog_1_method_12_code 109 (.invokevirtual 163) 3 112 := ⟨by decide +kernel, rfl⟩
theorem d_X9_then_112 : q_dec prog_1_method_12_code 112 (.ireturn) 1 113 := ⟨by decide +kernel, rfl⟩
theorem d_X9_then_113 : q_dec prog_1_method_12_code 113 (.aload_n 0) 1 114 := ⟨by decide +kernel, rfl⟩
theorem d_X9_then_114 : q_dec prog_1_method_12_code 114 (.getfield 26) 3 117 := ⟨by decide +kernel, rfl⟩
theorem d_X9_then_117 : q_dec prog_1_method_12_code 117 (.getfield 166) 3 120 := ⟨by decide +kernel, rfl⟩
theorem d_X9_then_120 : q_dec prog_1_method_12_code 120 (.ireturn) 1 121 := ⟨by decide +kernel, rfl⟩
theorem d_X9_then_121 : q_dec prog_1_method_12_code 121 (.aload_n 0) 1 122 := ⟨by decide +kernel, rfl⟩
theorem d_X9_then_122 : q_dec prog_1_method_12_code 122 (.getfield 26) 3 125 := ⟨by decide +kernel, rfl⟩
theorem d_X9_then_125 : q_dec prog_1_method_12_code 125 (.getfield 169) 3 128 := ⟨by decide +kernel, rfl⟩
theorem d_X9_then_128 : q_dec prog_1_method_12_code 128 (.ireturn) 1 129 := ⟨by decide +kernel, rfl⟩
theorem m_X9_then : q_wV y_X9_then prog_1_method_12_code 2 (some .int) 1 := ⟨q_mem 477 (by decide +kernel) (by decide +kernel), q_mem 475 (by decide +kernel) (by decide +kernel), q_mem 476 (by decide +kernel) (by decide +kernel), q_mem 1 (by decide +kernel) (by decide +kernel), by decide +kernel⟩
theorem d_X9_standing_0 : q_dec prog_1_method_13_code 0 (.iload_n 1) 1 1 := ⟨by decide +kernel, rfl⟩
theorem d_X9_standing_1 : q_dec prog_1_method_13_code 1 (.invokestatic 66) 3 4 := ⟨by decide +kernel, rfl⟩
theorem d_X9_standing_4 : q_dec prog_1_method_13_code 4 (.ifCond .ne 5) 3 7 := ⟨by decide +kernel, rfl⟩
theorem d_X9_standing_7 : q_dec prog_1_method_13_code 7 (.iconst (-1)) 1 8 := ⟨by decide +kernel, rfl⟩
theorem d_X9_standing_8 : q_dec prog_1_method_13_code 8 (.ireturn) 1 9 := ⟨by decide +kernel, rfl⟩
theorem d_X9_standing_9 : q_dec prog_1_method_13_code 9 (.iload_n 2) 1 10 := ⟨by decide +kernel, rfl⟩
theorem d_X9_standing_10 : q_dec prog_1_method_13_code 10 (.iconst 0) 1 11 := ⟨by decide +kernel, rfl⟩
theorem d_X9_standing_11 : q_dec prog_1_method_13_code 11 (.iconst 1) 1 12 := ⟨by decide +kernel, rfl⟩
theorem d_X9_standing_12 : q_dec prog_1_method_13_code 12 (.invokestatic 74) 3 15 := ⟨by decide +kernel, rfl⟩
theorem d_X9_standing_15 : q_dec prog_1_method_13_code 15 (.ifCond .ne 6) 3 18 := ⟨by decide +kernel, rfl⟩
theorem d_X9_standing_18 : q_dec prog_1_method_13_code 18 (.bipush (-2)) 2 20 := ⟨by decide +kernel, rfl⟩
theorem d_X9_standing_20 : q_dec prog_1_method_13_code 20 (.ireturn) 1 21 := ⟨by decide +kernel, rfl⟩
theorem d_X9_standing_21 : q_dec prog_1_method_13_code 21 (.iload_n 2) 1 22 := ⟨by decide +kernel, rfl⟩
theorem d_X9_standing_22 : q_dec prog_1_method_13_code 22 (.ifCond .ne 14) 3 25 := ⟨by decide +kernel, rfl⟩
theorem d_X9_standing_25 : q_dec prog_1_method_13_code 25 (.aload_n 0) 1 26 := ⟨by decide +kernel, rfl⟩
theorem d_X9_standing_26 : q_dec prog_1_method_13_code 26 (.getfield 19) 3 29 := ⟨by decide +kernel, rfl⟩
theorem d_X9_standing_29 : q_dec prog_1_method_13_code 29 (.iload_n 1) 1 30 := ⟨by decide +kernel, rfl⟩
theorem d_X9_standing_30 : q_dec prog_1_method_13_code 30 (.invokevirtual 172) 3 33 := ⟨by decide +kernel, rfl⟩
theorem d_X9_standing_33 : q_dec prog_1_method_13_code 33 (.goto 11) 3 36 := ⟨by decide +kernel, rfl⟩
theorem d_X9_standing_36 : q_dec prog_1_method_13_code 36 (.aload_n 0) 1 37 := ⟨by decide +kernel, rfl⟩
theorem d_X9_standing_37 : q_dec prog_1_method_13_code 37 (.getfield 19) 3 40 := ⟨by decide +kernel, rfl⟩
theorem d_X9_standing_40 : q_dec prog_1_method_13_code 40 (.iload_n 1) 1 41 := ⟨by decide +kernel, rfl⟩
theorem d_X9_standing_41 : q_dec prog_1_method_13_code 41 (.invokevirtual 175) 3 44 := ⟨by decide +kernel, rfl⟩
theorem d_X9_standing_44 : q_dec prog_1_method_13_code 44 (.ireturn) 1 45 := ⟨by decide +kernel, rfl⟩
theorem m_X9_standing : q_wV y_X9_standing prog_1_method_13_code 3 (some .int) 2 := ⟨q_mem 485 (by decide +kernel) (by decide +kernel), q_mem 483 (by decide +kernel) (by decide +kernel), q_mem 484 (by decide +kernel) (by decide +kernel), q_mem 1 (by decide +kernel) (by decide +kernel), by decide +kernel⟩
theorem d_X9_trip_0 : q_dec prog_1_method_14_code 0 (.aload_n 0) 1 1 := ⟨by decide +kernel, rfl⟩
theorem d_X9_trip_1 : q_dec prog_1_method_14_code 1 (.getfield 19) 3 4 := ⟨by decide +kernel, rfl⟩
theorem d_X9_trip_4 : q_dec prog_1_method_14_code 4 (.iload_n 1) 1 5 := ⟨by decide +kernel, rfl⟩
theorem d_X9_trip_5 : q_dec prog_1_method_14_code 5 (.invokevirtual 101) 3 8 := ⟨by decide +kernel, rfl⟩
theorem d_X9_trip_8 : q_dec prog_1_method_14_code 8 (.ifCond .eq 10) 3 11 := ⟨by decide +kernel, rfl⟩
theorem d_X9_trip_11 : q_dec prog_1_method_14_code 11 (.iload_n 2) 1 12 := ⟨by decide +kernel, rfl⟩
theorem d_X9_trip_12 : q_dec prog_1_method_14_code 12 (.invokestatic 66) 3 15 := ⟨by decide +kernel, rfl⟩
theorem d_X9_trip_15 : q_dec prog_1_method_14_code 15 (.ifCond .ne 5) 3 18 := ⟨by decide +kernel, rfl⟩
theorem d_X9_trip_18 : q_dec prog_1_method_14_code 18 (.iconst (-1)) 1 19 := ⟨by decide +kernel, rfl⟩
theorem d_X9_trip_19 : q_dec prog_1_method_14_code 19 (.ireturn) 1 20 := ⟨by decide +kernel, rfl⟩
theorem d_X9_trip_20 : q_dec prog_1_method_14_code 20 (.iload_n 3) 1 21 := ⟨by decide +kernel, rfl⟩
theorem d_X9_trip_21 : q_dec prog_1_method_14_code 21 (.iconst 0) 1 22 := ⟨by decide +kernel, rfl⟩
theorem d_X9_trip_22 : q_dec prog_1_method_14_code 22 (.iconst 1) 1 23 := ⟨by decide +kernel, rfl⟩
theorem d_X9_trip_23 : q_dec prog_1_method_14_code 23 (.invokestatic 74) 3 26 := ⟨by decide +kernel, rfl⟩
theorem d_X9_trip_26 : q_dec prog_1_method_14_code 26 (.ifCond .ne 6) 3 29 := ⟨by decide +kernel, rfl⟩
theorem d_X9_trip_29 : q_dec prog_1_method_14_code 29 (.bipush (-2)) 2 31 := ⟨by decide +kernel, rfl⟩
theorem d_X9_trip_31 : q_dec prog_1_method_14_code 31 (.ireturn) 1 32 := ⟨by decide +kernel, rfl⟩
theorem d_X9_trip_32 : q_dec prog_1_method_14_code 32 (.aload_n 0) 1 33 := ⟨by decide +kernel, rfl⟩
theorem d_X9_trip_33 : q_dec prog_1_method_14_code 33 (.getfield 19) 3 36 := ⟨by decide +kernel, rfl⟩
theorem d_X9_trip_36 : q_dec prog_1_method_14_code 36 (.getfield 81) 3 39 := ⟨by decide +kernel, rfl⟩
theorem d_X9_trip_39 : q_dec prog_1_method_14_code 39 (.iload_n 1) 1 40 := ⟨by decide +kernel, rfl⟩
theorem d_X9_trip_40 : q_dec prog_1_method_14_code 40 (.aaload) 1 41 := ⟨by decide +kernel, rfl⟩
theorem d_X9_trip_41 : q_dec prog_1_method_14_code 41 (.astore 4) 2 43 := ⟨by decide +kernel, rfl⟩
theorem d_X9_trip_43 : q_dec prog_1_method_14_code 43 (.aload_n 0) 1 44 := ⟨by decide +kernel, rfl⟩
theorem d_X9_trip_44 : q_dec prog_1_method_14_code 44 (.getfield 41) 3 47 := ⟨by decide +kernel, rfl⟩
theorem d_X9_trip_47 : q_dec prog_1_method_14_code 47 (.aload 4) 2 49 := ⟨by decide +kernel, rfl⟩
theorem d_X9_trip_49 : q_dec prog_1_method_14_code 49 (.iload_n 2) 1 50 := ⟨by decide +kernel, rfl⟩
theorem d_X9_trip_50 : q_dec prog_1_method_14_code 50 (.aload_n 0) 1 51 := ⟨by decide +kernel, rfl⟩
theorem d_X9_trip_51 : q_dec prog_1_method_14_code 51 (.getfield 19) 3 54 := ⟨by decide +kernel, rfl⟩
theorem d_X9_trip_54 : q_dec prog_1_method_14_code 54 (.aload 4) 2 56 := ⟨by decide +kernel, rfl⟩
theorem d_X9_trip_56 : q_dec prog_1_method_14_code 56 (.invokevirtual 178) 3 59 := ⟨by decide +kernel, rfl⟩
theorem d_X9_trip_59 : q_dec prog_1_method_14_code 59 (.ifCond .eq 13) 3 62 := ⟨by decide +kernel, rfl⟩
theorem d_X9_trip_62 : q_dec prog_1_method_14_code 62 (.aload_n 0) 1 63 := ⟨by decide +kernel, rfl⟩
theorem d_X9_trip_63 : q_dec prog_1_method_14_code 63 (.getfield 19) 3 66 := ⟨by decide +kernel, rfl⟩
theorem d_X9_trip_66 : q_dec prog_1_method_14_code 66 (.getfield 78) 3 69 := ⟨by decide +kernel, rfl⟩
theorem d_X9_trip_69 : q_dec prog_1_method_14_code 69 (.goto 5) 3 72 := ⟨by decide +kernel, rfl⟩
theorem d_X9_trip_72 : q_dec prog_1_method_14_code 72 (.bipush (-6)) 2 74 := ⟨by decide +kernel, rfl⟩
theorem d_X9_trip_74 : q_dec prog_1_method_14_code 74 (.invokevirtual 182) 3 77 := ⟨by decide +kernel, rfl⟩
theorem d_X9_trip_77 : q_dec prog_1_method_14_code 77 (.iload_n 3) 1 78 := ⟨by decide +kernel, rfl⟩
theorem d_X9_trip_78 : q_dec prog_1_method_14_code 78 (.ifCond .ne 13) 3 81 := ⟨by decide +kernel, rfl⟩
theorem d_X9_trip_81 : q_dec prog_1_method_14_code 81 (.aload_n 0) 1 82 := ⟨by decide +kernel, rfl⟩
theorem d_X9_trip_82 : q_dec prog_1_method_14_code 82 (.getfield 41) 3 85 := ⟨by decide +kernel, rfl⟩
theorem d_X9_trip_85 : q_dec prog_1_method_14_code 85 (.getfield 186) 3 88 := ⟨by decide +kernel, rfl⟩
theorem d_X9_trip_88 : q_dec prog_1_method_14_code 88 (.goto 10) 3 91 := ⟨by decide +kernel, rfl⟩
theorem d_X9_trip_91 : q_dec prog_1_method_14_code 91 (.aload_n 0) 1 92 := ⟨by decide +kernel, rfl⟩
theorem d_X9_trip_92 : q_dec prog_1_method_14_code 92 (.getfield 41) 3 95 := ⟨by decide +kernel, rfl⟩
theorem d_X9_trip_95 : q_dec prog_1_method_14_code 95 (.getfield 187) 3 98 := ⟨by decide +kernel, rfl⟩
theorem d_X9_trip_98 : q_dec prog_1_method_14_code 98 (.ireturn) 1 99 := ⟨by decide +kernel, rfl⟩
theorem m_X9_trip : q_wV y_X9_trip prog_1_method_14_code 5 (some .int) 3 := ⟨q_mem 491 (by decide +kernel) (by decide +kernel), q_mem 489 (by decide +kernel) (by decide +kernel), q_mem 490 (by decide +kernel) (by decide +kernel), q_mem 1 (by decide +kernel) (by decide +kernel), by decide +kernel⟩
theorem d_X9_meeting_0 : q_dec prog_1_method_30_code 0 (.aload_n 0) 1 1 := ⟨by decide +kernel, rfl⟩
theorem d_X9_meeting_1 : q_dec prog_1_method_30_code 1 (.getfield 279) 3 4 := ⟨by decide +kernel, rfl⟩
theorem d_X9_meeting_4 : q_dec prog_1_method_30_code 4 (.istore_n 2) 1 5 := ⟨by decide +kernel, rfl⟩
theorem d_X9_meeting_5 : q_dec prog_1_method_30_code 5 (.aload_n 0) 1 6 := ⟨by decide +kernel, rfl⟩
theorem d_X9_meeting_6 : q_dec prog_1_method_30_code 6 (.getfield 276) 3 9 := ⟨by decide +kernel, rfl⟩
theorem d_X9_meeting_9 : q_dec prog_1_method_30_code 9 (.istore_n 3) 1 10 := ⟨by decide +kernel, rfl⟩
theorem d_X9_meeting_10 : q_dec prog_1_method_30_code 10 (.iconst 0) 1 11 := ⟨by decide +kernel, rfl⟩
theorem d_X9_meeting_11 : q_dec prog_1_method_30_code 11 (.istore 4) 2 13 := ⟨by decide +kernel, rfl⟩
theorem d_X9_meeting_13 : q_dec prog_1_method_30_code 13 (.iload 4) 2 15 := ⟨by decide +kernel, rfl⟩
theorem d_X9_meeting_15 : q_dec prog_1_method_30_code 15 (.bipush 40) 2 17 := ⟨by decide +kernel, rfl⟩
theorem d_X9_meeting_17 : q_dec prog_1_method_30_code 17 (.if_icmp .ge 54) 3 20 := ⟨by decide +kernel, rfl⟩
theorem d_X9_meeting_20 : q_dec prog_1_method_30_code 20 (.iload_n 2) 1 21 := ⟨by decide +kernel, rfl⟩
theorem d_X9_meeting_21 : q_dec prog_1_method_30_code 21 (.aload_n 0) 1 22 := ⟨by decide +kernel, rfl⟩
theorem d_X9_meeting_22 : q_dec prog_1_method_30_code 22 (.getfield 146) 3 25 := ⟨by decide +kernel, rfl⟩
theorem d_X9_meeting_25 : q_dec prog_1_method_30_code 25 (.iconst 0) 1 26 := ⟨by decide +kernel, rfl⟩
theorem d_X9_meeting_26 : q_dec prog_1_method_30_code 26 (.iaload) 1 27 := ⟨by decide +kernel, rfl⟩
theorem d_X9_meeting_27 : q_dec prog_1_method_30_code 27 (.isub) 1 28 := ⟨by decide +kernel, rfl⟩
theorem d_X9_meeting_28 : q_dec prog_1_method_30_code 28 (.invokestatic 282) 3 31 := ⟨by decide +kernel, rfl⟩
theorem d_X9_meeting_31 : q_dec prog_1_method_30_code 31 (.iload 4) 2 33 := ⟨by decide +kernel, rfl⟩
theorem d_X9_meeting_33 : q_dec prog_1_method_30_code 33 (.if_icmp .gt 14) 3 36 := ⟨by decide +kernel, rfl⟩
theorem d_X9_meeting_36 : q_dec prog_1_method_30_code 36 (.iload_n 1) 1 37 := ⟨by decide +kernel, rfl⟩
theorem d_X9_meeting_37 : q_dec prog_1_method_30_code 37 (.ifCond .eq 7) 3 40 := ⟨by decide +kernel, rfl⟩
theorem d_X9_meeting_40 : q_dec prog_1_method_30_code 40 (.iload_n 2) 1 41 := ⟨by decide +kernel, rfl⟩
theorem d_X9_meeting_41 : q_dec prog_1_method_30_code 41 (.goto 5) 3 44 := ⟨by decide +kernel, rfl⟩
theorem d_X9_meeting_44 : q_dec prog_1_method_30_code 44 (.iload 4) 2 46 := ⟨by decide +kernel, rfl⟩
theorem d_X9_meeting_46 : q_dec prog_1_method_30_code 46 (.ireturn) 1 47 := ⟨by decide +kernel, rfl⟩
theorem d_X9_meeting_47 : q_dec prog_1_method_30_code 47 (.iload_n 2) 1 48 := ⟨by decide +kernel, rfl⟩
theorem d_X9_meeting_48 : q_dec prog_1_method_30_code 48 (.iload_n 3) 1 49 := ⟨by decide +kernel, rfl⟩
theorem d_X9_meeting_49 : q_dec prog_1_method_30_code 49 (.invokestatic 285) 3 52 := ⟨by decide +kernel, rfl⟩
theorem d_X9_meeting_52 : q_dec prog_1_method_30_code 52 (.istore_n 3) 1 53 := ⟨by decide +kernel, rfl⟩
theorem d_X9_meeting_53 : q_dec prog_1_method_30_code 53 (.iload_n 2) 1 54 := ⟨by decide +kernel, rfl⟩
theorem d_X9_meeting_54 : q_dec prog_1_method_30_code 54 (.iload_n 3) 1 55 := ⟨by decide +kernel, rfl⟩
theorem d_X9_meeting_55 : q_dec prog_1_method_30_code 55 (.ifCond .eq 7) 3 58 := ⟨by decide +kernel, rfl⟩
theorem d_X9_meeting_58 : q_dec prog_1_method_30_code 58 (.iconst 1) 1 59 := ⟨by decide +kernel, rfl⟩
theorem d_X9_meeting_59 : q_dec prog_1_method_30_code 59 (.goto 4) 3 62 := ⟨by decide +kernel, rfl⟩
theorem d_X9_meeting_62 : q_dec prog_1_method_30_code 62 (.iconst (-1)) 1 63 := ⟨by decide +kernel, rfl⟩
theorem d_X9_meeting_63 : q_dec prog_1_method_30_code 63 (.iadd) 1 64 := ⟨by decide +kernel, rfl⟩
theorem d_X9_meeting_64 : q_dec prog_1_method_30_code 64 (.istore_n 2) 1 65 := ⟨by decide +kernel, rfl⟩
theorem d_X9_meeting_65 : q_dec prog_1_method_30_code 65 (.iinc 4 1) 3 68 := ⟨by decide +kernel, rfl⟩
theorem d_X9_meeting_68 : q_dec prog_1_method_30_code 68 (.goto (-55)) 3 71 := ⟨by decide +kernel, rfl⟩
theorem d_X9_meeting_71 : q_dec prog_1_method_30_code 71 (.bipush (-6)) 2 73 := ⟨by decide +kernel, rfl⟩
theorem d_X9_meeting_73 : q_dec prog_1_method_30_code 73 (.ireturn) 1 74 := ⟨by decide +kernel, rfl⟩
theorem m_X9_meeting : q_wS y_X9_meeting prog_1_method_30_code 5 (some .int) 2 := ⟨q_mem 529 (by decide +kernel) (by decide +kernel), q_mem 528 (by decide +kernel) (by decide +kernel), q_mem 1 (by decide +kernel) (by decide +kernel), by decide +kernel⟩
theorem d_X9_again_0 : q_dec prog_1_method_15_code 0 (.aload_n 0) 1 1 := ⟨by decide +kernel, rfl⟩
theorem d_X9_again_1 : q_dec prog_1_method_15_code 1 (.getfield 19) 3 4 := ⟨by decide +kernel, rfl⟩
theorem d_X9_again_4 : q_dec prog_1_method_15_code 4 (.iload_n 1) 1 5 := ⟨by decide +kernel, rfl⟩
theorem d_X9_again_5 : q_dec prog_1_method_15_code 5 (.invokevirtual 101) 3 8 := ⟨by decide +kernel, rfl⟩
theorem d_X9_again_8 : q_dec prog_1_method_15_code 8 (.ifCond .ne 5) 3 11 := ⟨by decide +kernel, rfl⟩
theorem d_X9_again_11 : q_dec prog_1_method_15_code 11 (.iconst (-1)) 1 12 := ⟨by decide +kernel, rfl⟩
theorem d_X9_again_12 : q_dec prog_1_method_15_code 12 (.ireturn) 1 13 := ⟨by decide +kernel, rfl⟩
theorem d_X9_again_13 : q_dec prog_1_method_15_code 13 (.iload_n 2) 1 14 := ⟨by decide +kernel, rfl⟩
theorem d_X9_again_14 : q_dec prog_1_method_15_code 14 (.iconst 0) 1 15 := ⟨by decide +kernel, rfl⟩
theorem d_X9_again_15 : q_dec prog_1_method_15_code 15 (.iconst 1) 1 16 := ⟨by decide +kernel, rfl⟩
theorem d_X9_again_16 : q_dec prog_1_method_15_code 16 (.invokestatic 74) 3 19 := ⟨by decide +kernel, rfl⟩
theorem d_X9_again_19 : q_dec prog_1_method_15_code 19 (.ifCond .ne 6) 3 22 := ⟨by decide +kernel, rfl⟩
theorem d_X9_again_22 : q_dec prog_1_method_15_code 22 (.bipush (-2)) 2 24 := ⟨by decide +kernel, rfl⟩
theorem d_X9_again_24 : q_dec prog_1_method_15_code 24 (.ireturn) 1 25 := ⟨by decide +kernel, rfl⟩
theorem d_X9_again_25 : q_dec prog_1_method_15_code 25 (.aload_n 0) 1 26 := ⟨by decide +kernel, rfl⟩
theorem d_X9_again_26 : q_dec prog_1_method_15_code 26 (.getfield 19) 3 29 := ⟨by decide +kernel, rfl⟩
theorem d_X9_again_29 : q_dec prog_1_method_15_code 29 (.getfield 81) 3 32 := ⟨by decide +kernel, rfl⟩
theorem d_X9_again_32 : q_dec prog_1_method_15_code 32 (.iload_n 1) 1 33 := ⟨by decide +kernel, rfl⟩
theorem d_X9_again_33 : q_dec prog_1_method_15_code 33 (.aaload) 1 34 := ⟨by decide +kernel, rfl⟩
theorem d_X9_again_34 : q_dec prog_1_method_15_code 34 (.getfield 154) 3 37 := ⟨by decide +kernel, rfl⟩
theorem d_X9_again_37 : q_dec prog_1_method_15_code 37 (.ifCond .ne 6) 3 40 := ⟨by decide +kernel, rfl⟩
theorem d_X9_again_40 : q_dec prog_1_method_15_code 40 (.bipush (-3)) 2 42 := ⟨by decide +kernel, rfl⟩
theorem d_X9_again_42 : q_dec prog_1_method_15_code 42 (.ireturn) 1 43 := ⟨by decide +kernel, rfl⟩
theorem d_X9_again_43 : q_dec prog_1_method_15_code 43 (.aload_n 0) 1 44 := ⟨by decide +kernel, rfl⟩
theorem d_X9_again_44 : q_dec prog_1_method_15_code 44 (.getfield 19) 3 47 := ⟨by decide +kernel, rfl⟩
theorem d_X9_again_47 : q_dec prog_1_method_15_code 47 (.getfield 81) 3 50 := ⟨by decide +kernel, rfl⟩
theorem d_X9_again_50 : q_dec prog_1_method_15_code 50 (.iload_n 1) 1 51 := ⟨by decide +kernel, rfl⟩
theorem d_X9_again_51 : q_dec prog_1_method_15_code 51 (.aaload) 1 52 := ⟨by decide +kernel, rfl⟩
theorem d_X9_again_52 : q_dec prog_1_method_15_code 52 (.iload_n 2) 1 53 := ⟨by decide +kernel, rfl⟩
theorem d_X9_again_53 : q_dec prog_1_method_15_code 53 (.iconst 1) 1 54 := ⟨by decide +kernel, rfl⟩
theorem d_X9_again_54 : q_dec prog_1_method_15_code 54 (.if_icmp .ne 7) 3 57 := ⟨by decide +kernel, rfl⟩
theorem d_X9_again_57 : q_dec prog_1_method_15_code 57 (.iconst 1) 1 58 := ⟨by decide +kernel, rfl⟩
theorem d_X9_again_58 : q_dec prog_1_method_15_code 58 (.goto 4) 3 61 := ⟨by decide +kernel, rfl⟩
theorem d_X9_again_61 : q_dec prog_1_method_15_code 61 (.iconst 0) 1 62 := ⟨by decide +kernel, rfl⟩
theorem d_X9_again_62 : q_dec prog_1_method_15_code 62 (.invokestatic 190) 3 65 := ⟨by decide +kernel, rfl⟩
theorem d_X9_again_65 : q_dec prog_1_method_15_code 65 (.ireturn) 1 66 := ⟨by decide +kernel, rfl⟩
theorem m_X9_again : q_wV y_X9_again prog_1_method_15_code 3 (some .int) 2 := ⟨q_mem 526 (by decide +kernel) (by decide +kernel), q_mem 524 (by decide +kernel) (by decide +kernel), q_mem 525 (by decide +kernel) (by decide +kernel), q_mem 1 (by decide +kernel) (by decide +kernel), by decide +kernel⟩
theorem d_X9_order_0 : q_dec prog_1_method_16_code 0 (.iload_n 1) 1 1 := ⟨by decide +kernel, rfl⟩
theorem d_X9_order_1 : q_dec prog_1_method_16_code 1 (.iconst 0) 1 2 := ⟨by decide +kernel, rfl⟩
theorem d_X9_order_2 : q_dec prog_1_method_16_code 2 (.ldc 194) 2 4 := ⟨by decide +kernel, rfl⟩
theorem d_X9_order_4 : q_dec prog_1_method_16_code 4 (.invokestatic 74) 3 7 := ⟨by decide +kernel, rfl⟩
theorem d_X9_order_7 : q_dec prog_1_method_16_code 7 (.ifCond .eq 22) 3 10 := ⟨by decide +kernel, rfl⟩
theorem d_X9_order_10 : q_dec prog_1_method_16_code 10 (.iload_n 2) 1 11 := ⟨by decide +kernel, rfl⟩
theorem d_X9_order_11 : q_dec prog_1_method_16_code 11 (.iconst 0) 1 12 := ⟨by decide +kernel, rfl⟩
theorem d_X9_order_12 : q_dec prog_1_method_16_code 12 (.ldc 194) 2 14 := ⟨by decide +kernel, rfl⟩
theorem d_X9_order_14 : q_dec prog_1_method_16_code 14 (.invokestatic 74) 3 17 := ⟨by decide +kernel, rfl⟩
theorem d_X9_order_17 : q_dec prog_1_method_16_code 17 (.ifCond .eq 12) 3 20 := ⟨by decide +kernel, rfl⟩
theorem d_X9_order_20 : q_dec prog_1_method_16_code 20 (.iload_n 3) 1 21 := ⟨by decide +kernel, rfl⟩
theorem d_X9_order_21 : q_dec prog_1_method_16_code 21 (.iconst 0) 1 22 := ⟨by decide +kernel, rfl⟩
theorem d_X9_order_22 : q_dec prog_1_method_16_code 22 (.iconst 1) 1 23 := ⟨by decide +kernel, rfl⟩
theorem d_X9_order_23 : q_dec prog_1_method_16_code 23 (.invokestatic 74) 3 26 := ⟨by decide +kernel, rfl⟩
theorem d_X9_order_26 : q_dec prog_1_method_16_code 26 (.ifCond .ne 6) 3 29 := ⟨by decide +kernel, rfl⟩
theorem d_X9_order_29 : q_dec prog_1_method_16_code 29 (.bipush (-2)) 2 31 := ⟨by decide +kernel, rfl⟩
theorem d_X9_order_31 : q_dec prog_1_method_16_code 31 (.ireturn) 1 32 := ⟨by decide +kernel, rfl⟩
theorem d_X9_order_32 : q_dec prog_1_method_16_code 32 (.aload_n 0) 1 33 := ⟨by decide +kernel, rfl⟩
theorem d_X9_order_33 : q_dec prog_1_method_16_code 33 (.getfield 48) 3 36 := ⟨by decide +kernel, rfl⟩
theorem d_X9_order_36 : q_dec prog_1_method_16_code 36 (.iload_n 1) 1 37 := ⟨by decide +kernel, rfl⟩
theorem d_X9_order_37 : q_dec prog_1_method_16_code 37 (.iload_n 2) 1 38 := ⟨by decide +kernel, rfl⟩
theorem d_X9_order_38 : q_dec prog_1_method_16_code 38 (.invokevirtual 195) 3 41 := ⟨by decide +kernel, rfl⟩
theorem d_X9_order_41 : q_dec prog_1_method_16_code 41 (.iload_n 3) 1 42 := ⟨by decide +kernel, rfl⟩
theorem d_X9_order_42 : q_dec prog_1_method_16_code 42 (.ifCond .ne 13) 3 45 := ⟨by decide +kernel, rfl⟩
theorem d_X9_order_45 : q_dec prog_1_method_16_code 45 (.aload_n 0) 1 46 := ⟨by decide +kernel, rfl⟩
theorem d_X9_order_46 : q_dec prog_1_method_16_code 46 (.getfield 48) 3 49 := ⟨by decide +kernel, rfl⟩
theorem d_X9_order_49 : q_dec prog_1_method_16_code 49 (.getfield 198) 3 52 := ⟨by decide +kernel, rfl⟩
theorem d_X9_order_52 : q_dec prog_1_method_16_code 52 (.goto 10) 3 55 := ⟨by decide +kernel, rfl⟩
theorem d_X9_order_55 : q_dec prog_1_method_16_code 55 (.aload_n 0) 1 56 := ⟨by decide +kernel, rfl⟩
theorem d_X9_order_56 : q_dec prog_1_method_16_code 56 (.getfield 48) 3 59 := ⟨by decide +kernel, rfl⟩
theorem d_X9_order_59 : q_dec prog_1_method_16_code 59 (.getfield 201) 3 62 := ⟨by decide +kernel, rfl⟩
theorem d_X9_order_62 : q_dec prog_1_method_16_code 62 (.ireturn) 1 63 := ⟨by decide +kernel, rfl⟩
theorem m_X9_order : q_wV y_X9_order prog_1_method_16_code 4 (some .int) 3 := ⟨q_mem 535 (by decide +kernel) (by decide +kernel), q_mem 533 (by decide +kernel) (by decide +kernel), q_mem 534 (by decide +kernel) (by decide +kernel), q_mem 1 (by decide +kernel) (by decide +kernel), by decide +kernel⟩
theorem d_X9_seen_0 : q_dec prog_1_method_17_code 0 (.iload_n 2) 1 1 := ⟨by decide +kernel, rfl⟩
theorem d_X9_seen_1 : q_dec prog_1_method_17_code 1 (.invokestatic 66) 3 4 := ⟨by decide +kernel, rfl⟩
theorem d_X9_seen_4 : q_dec prog_1_method_17_code 4 (.ifCond .ne 5) 3 7 := ⟨by decide +kernel, rfl⟩
theorem d_X9_seen_7 : q_dec prog_1_method_17_code 7 (.iconst (-1)) 1 8 := ⟨by decide +kernel, rfl⟩
theorem d_X9_seen_8 : q_dec prog_1_method_17_code 8 (.ireturn) 1 9 := ⟨by decide +kernel, rfl⟩
theorem d_X9_seen_9 : q_dec prog_1_method_17_code 9 (.iload_n 1) 1 10 := ⟨by decide +kernel, rfl⟩
theorem d_X9_seen_10 : q_dec prog_1_method_17_code 10 (.iconst 0) 1 11 := ⟨by decide +kernel, rfl⟩
theorem d_X9_seen_11 : q_dec prog_1_method_17_code 11 (.bipush 60) 2 13 := ⟨by decide +kernel, rfl⟩
theorem d_X9_seen_13 : q_dec prog_1_method_17_code 13 (.invokestatic 74) 3 16 := ⟨by decide +kernel, rfl⟩
theorem d_X9_seen_16 : q_dec prog_1_method_17_code 16 (.ifCond .ne 6) 3 19 := ⟨by decide +kernel, rfl⟩
theorem d_X9_seen_19 : q_dec prog_1_method_17_code 19 (.bipush (-2)) 2 21 := ⟨by decide +kernel, rfl⟩
theorem d_X9_seen_21 : q_dec prog_1_method_17_code 21 (.ireturn) 1 22 := ⟨by decide +kernel, rfl⟩
theorem d_X9_seen_22 : q_dec prog_1_method_17_code 22 (.aload_n 0) 1 23 := ⟨by decide +kernel, rfl⟩
theorem d_X9_seen_23 : q_dec prog_1_method_17_code 23 (.getfield 19) 3 26 := ⟨by decide +kernel, rfl⟩
theorem d_X9_seen_26 : q_dec prog_1_method_17_code 26 (.getfield 206) 3 29 := ⟨by decide +kernel, rfl⟩
theorem d_X9_seen_29 : q_dec prog_1_method_17_code 29 (.iload_n 1) 1 30 := ⟨by decide +kernel, rfl⟩
theorem d_X9_seen_30 : q_dec prog_1_method_17_code 30 (.iload_n 2) 1 31 := ⟨by decide +kernel, rfl⟩
theorem d_X9_seen_31 : q_dec prog_1_method_17_code 31 (.invokevirtual 210) 3 34 := ⟨by decide +kernel, rfl⟩
theorem d_X9_seen_34 : q_dec prog_1_method_17_code 34 (.ifCond .eq 16) 3 37 := ⟨by decide +kernel, rfl⟩
theorem d_X9_seen_37 : q_dec prog_1_method_17_code 37 (.aload_n 0) 1 38 := ⟨by decide +kernel, rfl⟩
theorem d_X9_seen_38 : q_dec prog_1_method_17_code 38 (.getfield 19) 3 41 := ⟨by decide +kernel, rfl⟩
theorem d_X9_seen_41 : q_dec prog_1_method_17_code 41 (.getfield 206) 3 44 := ⟨by decide +kernel, rfl⟩
theorem d_X9_seen_44 : q_dec prog_1_method_17_code 44 (.getfield 213) 3 47 := ⟨by decide +kernel, rfl⟩
theorem d_X9_seen_47 : q_dec prog_1_method_17_code 47 (.goto 5) 3 50 := ⟨by decide +kernel, rfl⟩
theorem d_X9_seen_50 : q_dec prog_1_method_17_code 50 (.bipush (-4)) 2 52 := ⟨by decide +kernel, rfl⟩
theorem d_X9_seen_52 : q_dec prog_1_method_17_code 52 (.ireturn) 1 53 := ⟨by decide +kernel, rfl⟩
theorem m_X9_seen : q_wV y_X9_seen prog_1_method_17_code 3 (some .int) 2 := ⟨q_mem 552 (by decide +kernel) (by decide +kernel), q_mem 550 (by decide +kernel) (by decide +kernel), q_mem 551 (by decide +kernel) (by decide +kernel), q_mem 1 (by decide +kernel) (by decide +kernel), by decide +kernel⟩
theorem d_X9_forget_0 : q_dec prog_1_method_18_code 0 (.aload_n 0) 1 1 := ⟨by decide +kernel, rfl⟩
theorem d_X9_forget_1 : q_dec prog_1_method_18_code 1 (.getfield 19) 3 4 := ⟨by decide +kernel, rfl⟩
theorem d_X9_forget_4 : q_dec prog_1_method_18_code 4 (.getfield 206) 3 7 := ⟨by decide +kernel, rfl⟩
theorem d_X9_forget_7 : q_dec prog_1_method_18_code 7 (.getfield 213) 3 10 := ⟨by decide +kernel, rfl⟩
theorem d_X9_forget_10 : q_dec prog_1_method_18_code 10 (.istore_n 1) 1 11 := ⟨by decide +kernel, rfl⟩
theorem d_X9_forget_11 : q_dec prog_1_method_18_code 11 (.aload_n 0) 1 12 := ⟨by decide +kernel, rfl⟩
theorem d_X9_forget_12 : q_dec prog_1_method_18_code 12 (.getfield 19) 3 15 := ⟨by decide +kernel, rfl⟩
theorem d_X9_forget_15 : q_dec prog_1_method_18_code 15 (.getfield 206) 3 18 := ⟨by decide +kernel, rfl⟩
theorem d_X9_forget_18 : q_dec prog_1_method_18_code 18 (.iconst 0) 1 19 := ⟨by decide +kernel, rfl⟩
theorem d_X9_forget_19 : q_dec prog_1_method_18_code 19 (.putfield 213) 3 22 := ⟨by decide +kernel, rfl⟩
theorem d_X9_forget_22 : q_dec prog_1_method_18_code 22 (.iload_n 1) 1 23 := ⟨by decide +kernel, rfl⟩
theorem d_X9_forget_23 : q_dec prog_1_method_18_code 23 (.ireturn) 1 24 := ⟨by decide +kernel, rfl⟩
theorem m_X9_forget : q_wV y_X9_forget prog_1_method_18_code 2 (some .int) 0 := ⟨q_mem 560 (by decide +kernel) (by decide +kernel), q_mem 558 (by decide +kernel) (by decide +kernel), q_mem 559 (by decide +kernel) (by decide +kernel), q_mem 1 (by decide +kernel) (by decide +kernel), by decide +kernel⟩
theorem d_X9_fits_0 : q_dec prog_1_method_19_code 0 (.iload_n 1) 1 1 := ⟨by decide +kernel, rfl⟩
theorem d_X9_fits_1 : q_dec prog_1_method_19_code 1 (.iconst (-1)) 1 2 := ⟨by decide +kernel, rfl⟩
theorem d_X9_fits_2 : q_dec prog_1_method_19_code 2 (.if_icmp .ne 20) 3 5 := ⟨by decide +kernel, rfl⟩
theorem d_X9_fits_5 : q_dec prog_1_method_19_code 5 (.aload_n 0) 1 6 := ⟨by decide +kernel, rfl⟩
theorem d_X9_fits_6 : q_dec prog_1_method_19_code 6 (.getfield 55) 3 9 := ⟨by decide +kernel, rfl⟩
theorem d_X9_fits_9 : q_dec prog_1_method_19_code 9 (.aload_n 0) 1 10 := ⟨by decide +kernel, rfl⟩
theorem d_X9_fits_10 : q_dec prog_1_method_19_code 10 (.getfield 19) 3 13 := ⟨by decide +kernel, rfl⟩
theorem d_X9_fits_13 : q_dec prog_1_method_19_code 13 (.getfield 206) 3 16 := ⟨by decide +kernel, rfl⟩
theorem d_X9_fits_16 : q_dec prog_1_method_19_code 16 (.invokevirtual 214) 3 19 := ⟨by decide +kernel, rfl⟩
theorem d_X9_fits_19 : q_dec prog_1_method_19_code 19 (.goto 18) 3 22 := ⟨by decide +kernel, rfl⟩
theorem d_X9_fits_22 : q_dec prog_1_method_19_code 22 (.aload_n 0) 1 23 := ⟨by decide +kernel, rfl⟩
theorem d_X9_fits_23 : q_dec prog_1_method_19_code 23 (.getfield 55) 3 26 := ⟨by decide +kernel, rfl⟩
theorem d_X9_fits_26 : q_dec prog_1_method_19_code 26 (.aload_n 0) 1 27 := ⟨by decide +kernel, rfl⟩
theorem d_X9_fits_27 : q_dec prog_1_method_19_code 27 (.getfield 19) 3 30 := ⟨by decide +kernel, rfl⟩
theorem d_X9_fits_30 : q_dec prog_1_method_19_code 30 (.getfield 206) 3 33 := ⟨by decide +kernel, rfl⟩
theorem d_X9_fits_33 : q_dec prog_1_method_19_code 33 (.iload_n 1) 1 34 := ⟨by decide +kernel, rfl⟩
theorem d_X9_fits_34 : q_dec prog_1_method_19_code 34 (.invokevirtual 218) 3 37 := ⟨by decide +kernel, rfl⟩
theorem d_X9_fits_37 : q_dec prog_1_method_19_code 37 (.ireturn) 1 38 := ⟨by decide +kernel, rfl⟩
theorem m_X9_fits : q_wV y_X9_fits prog_1_method_19_code 2 (some .int) 1 := ⟨q_mem 564 (by decide +kernel) (by decide +kernel), q_mem 562 (by decide +kernel) (by decide +kernel), q_mem 563 (by decide +kernel) (by decide +kernel), q_mem 1 (by decide +kernel) (by decide +kernel), by decide +kernel⟩
theorem d_X9_ask_0 : q_dec prog_1_method_20_code 0 (.iload_n 1) 1 1 := ⟨by decide +kernel, rfl⟩
theorem d_X9_ask_1 : q_dec prog_1_method_20_code 1 (.iconst 0) 1 2 := ⟨by decide +kernel, rfl⟩
theorem d_X9_ask_2 : q_dec prog_1_method_20_code 2 (.iconst 1) 1 3 := ⟨by decide +kernel, rfl⟩
theorem d_X9_ask_3 : q_dec prog_1_method_20_code 3 (.invokestatic 74) 3 6 := ⟨by decide +kernel, rfl⟩
theorem d_X9_ask_6 : q_dec prog_1_method_20_code 6 (.ifCond .ne 6) 3 9 := ⟨by decide +kernel, rfl⟩
theorem d_X9_ask_9 : q_dec prog_1_method_20_code 9 (.bipush (-2)) 2 11 := ⟨by decide +kernel, rfl⟩
theorem d_X9_ask_11 : q_dec prog_1_method_20_code 11 (.ireturn) 1 12 := ⟨by decide +kernel, rfl⟩
theorem d_X9_ask_12 : q_dec prog_1_method_20_code 12 (.aload_n 0) 1 13 := ⟨by decide +kernel, rfl⟩
theorem d_X9_ask_13 : q_dec prog_1_method_20_code 13 (.getfield 55) 3 16 := ⟨by decide +kernel, rfl⟩
theorem d_X9_ask_16 : q_dec prog_1_method_20_code 16 (.aload_n 0) 1 17 := ⟨by decide +kernel, rfl⟩
theorem d_X9_ask_17 : q_dec prog_1_method_20_code 17 (.getfield 19) 3 20 := ⟨by decide +kernel, rfl⟩
theorem d_X9_ask_20 : q_dec prog_1_method_20_code 20 (.getfield 206) 3 23 := ⟨by decide +kernel, rfl⟩
theorem d_X9_ask_23 : q_dec prog_1_method_20_code 23 (.invokevirtual 222) 3 26 := ⟨by decide +kernel, rfl⟩
theorem d_X9_ask_26 : q_dec prog_1_method_20_code 26 (.iload_n 1) 1 27 := ⟨by decide +kernel, rfl⟩
theorem d_X9_ask_27 : q_dec prog_1_method_20_code 27 (.ifCond .ne 13) 3 30 := ⟨by decide +kernel, rfl⟩
theorem d_X9_ask_30 : q_dec prog_1_method_20_code 30 (.aload_n 0) 1 31 := ⟨by decide +kernel, rfl⟩
theorem d_X9_ask_31 : q_dec prog_1_method_20_code 31 (.getfield 55) 3 34 := ⟨by decide +kernel, rfl⟩
theorem d_X9_ask_34 : q_dec prog_1_method_20_code 34 (.getfield 226) 3 37 := ⟨by decide +kernel, rfl⟩
theorem d_X9_ask_37 : q_dec prog_1_method_20_code 37 (.goto 10) 3 40 := ⟨by decide +kernel, rfl⟩
theorem d_X9_ask_40 : q_dec prog_1_method_20_code 40 (.aload_n 0) 1 41 := ⟨by decide +kernel, rfl⟩
theorem d_X9_ask_41 : q_dec prog_1_method_20_code 41 (.getfield 55) 3 44 := ⟨by decide +kernel, rfl⟩
theorem d_X9_ask_44 : q_dec prog_1_method_20_code 44 (.getfield 229) 3 47 := ⟨by decide +kernel, rfl⟩
theorem d_X9_ask_47 : q_dec prog_1_method_20_code 47 (.ireturn) 1 48 := ⟨by decide +kernel, rfl⟩
theorem m_X9_ask : q_wV y_X9_ask prog_1_method_20_code 2 (some .int) 1 := ⟨q_mem 585 (by decide +kernel) (by decide +kernel), q_mem 583 (by decide +kernel) (by decide +kernel), q_mem 584 (by decide +kernel) (by decide +kernel), q_mem 1 (by decide +kernel) (by decide +kernel), by decide +kernel⟩
theorem d_X9_canBeginnerWin_0 : q_dec prog_1_method_33_code 0 (.iload_n 0) 1 1 := ⟨by decide +kernel, rfl⟩
theorem d_X9_canBeginnerWin_1 : q_dec prog_1_method_33_code 1 (.istore_n 2) 1 2 := ⟨by decide +kernel, rfl⟩
theorem d_X9_canBeginnerWin_2 : q_dec prog_1_method_33_code 2 (.iload_n 1) 1 3 := ⟨by decide +kernel, rfl⟩
theorem d_X9_canBeginnerWin_3 : q_dec prog_1_method_33_code 3 (.istore_n 3) 1 4 := ⟨by decide +kernel, rfl⟩
theorem d_X9_canBeginnerWin_4 : q_dec prog_1_method_33_code 4 (.iconst 1) 1 5 := ⟨by decide +kernel, rfl⟩
theorem d_X9_canBeginnerWin_5 : q_dec prog_1_method_33_code 5 (.istore 4) 2 7 := ⟨by decide +kernel, rfl⟩
theorem d_X9_canBeginnerWin_7 : q_dec prog_1_method_33_code 7 (.iconst 0) 1 8 := ⟨by decide +kernel, rfl⟩
theorem d_X9_canBeginnerWin_8 : q_dec prog_1_method_33_code 8 (.istore 5) 2 10 := ⟨by decide +kernel, rfl⟩
theorem d_X9_canBeginnerWin_10 : q_dec prog_1_method_33_code 10 (.iload 5) 2 12 := ⟨by decide +kernel, rfl⟩
theorem d_X9_canBeginnerWin_12 : q_dec prog_1_method_33_code 12 (.bipush 100) 2 14 := ⟨by decide +kernel, rfl⟩
theorem d_X9_canBeginnerWin_14 : q_dec prog_1_method_33_code 14 (.if_icmp .ge 50) 3 17 := ⟨by decide +kernel, rfl⟩
theorem d_X9_canBeginnerWin_17 : q_dec prog_1_method_33_code 17 (.iload_n 3) 1 18 := ⟨by decide +kernel, rfl⟩
theorem d_X9_canBeginnerWin_18 : q_dec prog_1_method_33_code 18 (.ifCond .le 46) 3 21 := ⟨by decide +kernel, rfl⟩
theorem d_X9_canBeginnerWin_21 : q_dec prog_1_method_33_code 21 (.iload_n 2) 1 22 := ⟨by decide +kernel, rfl⟩
theorem d_X9_canBeginnerWin_22 : q_dec prog_1_method_33_code 22 (.iload_n 3) 1 23 := ⟨by decide +kernel, rfl⟩
theorem d_X9_canBeginnerWin_23 : q_dec prog_1_method_33_code 23 (.irem) 1 24 := ⟨by decide +kernel, rfl⟩
theorem d_X9_canBeginnerWin_24 : q_dec prog_1_method_33_code 24 (.istore 6) 2 26 := ⟨by decide +kernel, rfl⟩
theorem d_X9_canBeginnerWin_26 : q_dec prog_1_method_33_code 26 (.iload 6) 2 28 := ⟨by decide +kernel, rfl⟩
theorem d_X9_canBeginnerWin_28 : q_dec prog_1_method_33_code 28 (.ifCond .eq 10) 3 31 := ⟨by decide +kernel, rfl⟩
theorem d_X9_canBeginnerWin_31 : q_dec prog_1_method_33_code 31 (.iload_n 2) 1 32 := ⟨by decide +kernel, rfl⟩
theorem d_X9_canBeginnerWin_32 : q_dec prog_1_method_33_code 32 (.iload_n 3) 1 33 := ⟨by decide +kernel, rfl⟩
theorem d_X9_canBeginnerWin_33 : q_dec prog_1_method_33_code 33 (.idiv) 1 34 := ⟨by decide +kernel, rfl⟩
theorem d_X9_canBeginnerWin_34 : q_dec prog_1_method_33_code 34 (.iconst 1) 1 35 := ⟨by decide +kernel, rfl⟩
theorem d_X9_canBeginnerWin_35 : q_dec prog_1_method_33_code 35 (.if_icmp .le 6) 3 38 := ⟨by decide +kernel, rfl⟩
theorem d_X9_canBeginnerWin_38 : q_dec prog_1_method_33_code 38 (.iload 4) 2 40 := ⟨by decide +kernel, rfl⟩
theorem d_X9_canBeginnerWin_40 : q_dec prog_1_method_33_code 40 (.ireturn) 1 41 := ⟨by decide +kernel, rfl⟩
theorem d_X9_canBeginnerWin_41 : q_dec prog_1_method_33_code 41 (.iload_n 3) 1 42 := ⟨by decide +kernel, rfl⟩
theorem d_X9_canBeginnerWin_42 : q_dec prog_1_method_33_code 42 (.istore_n 2) 1 43 := ⟨by decide +kernel, rfl⟩
theorem d_X9_canBeginnerWin_43 : q_dec prog_1_method_33_code 43 (.iload 6) 2 45 := ⟨by decide +kernel, rfl⟩
theorem d_X9_canBeginnerWin_45 : q_dec prog_1_method_33_code 45 (.istore_n 3) 1 46 := ⟨by decide +kernel, rfl⟩
theorem d_X9_canBeginnerWin_46 : q_dec prog_1_method_33_code 46 (.iload 4) 2 48 := ⟨by decide +kernel, rfl⟩
theorem d_X9_canBeginnerWin_48 : q_dec prog_1_method_33_code 48 (.ifCond .ne 7) 3 51 := ⟨by decide +kernel, rfl⟩
theorem d_X9_canBeginnerWin_51 : q_dec prog_1_method_33_code 51 (.iconst 1) 1 52 := ⟨by decide +kernel, rfl⟩
theorem d_X9_canBeginnerWin_52 : q_dec prog_1_method_33_code 52 (.goto 4) 3 55 := ⟨by decide +kernel, rfl⟩
theorem d_X9_canBeginnerWin_55 : q_dec prog_1_method_33_code 55 (.iconst 0) 1 56 := ⟨by decide +kernel, rfl⟩
theorem d_X9_canBeginnerWin_56 : q_dec prog_1_method_33_code 56 (.istore 4) 2 58 := ⟨by decide +kernel, rfl⟩
theorem d_X9_canBeginnerWin_58 : q_dec prog_1_method_33_code 58 (.iinc 5 1) 3 61 := ⟨by decide +kernel, rfl⟩
theorem d_X9_canBeginnerWin_61 : q_dec prog_1_method_33_code 61 (.goto (-51)) 3 64 := ⟨by decide +kernel, rfl⟩
theorem d_X9_canBeginnerWin_64 : q_dec prog_1_method_33_code 64 (.iload 4) 2 66 := ⟨by decide +kernel, rfl⟩
theorem d_X9_canBeginnerWin_66 : q_dec prog_1_method_33_code 66 (.ifCond .ne 7) 3 69 := ⟨by decide +kernel, rfl⟩
theorem d_X9_canBeginnerWin_69 : q_dec prog_1_method_33_code 69 (.iconst 1) 1 70 := ⟨by decide +kernel, rfl⟩
theorem d_X9_canBeginnerWin_70 : q_dec prog_1_method_33_code 70 (.goto 4) 3 73 := ⟨by decide +kernel, rfl⟩
theorem d_X9_canBeginnerWin_73 : q_dec prog_1_method_33_code 73 (.iconst 0) 1 74 := ⟨by decide +kernel, rfl⟩
theorem d_X9_canBeginnerWin_74 : q_dec prog_1_method_33_code 74 (.ireturn) 1 75 := ⟨by decide +kernel, rfl⟩
theorem m_X9_canBeginnerWin : q_wS y_X9_canBeginnerWin prog_1_method_33_code 7 (some .boolean) 2 := ⟨q_mem 613 (by decide +kernel) (by decide +kernel), q_mem 612 (by decide +kernel) (by decide +kernel), q_mem 1 (by decide +kernel) (by decide +kernel), by decide +kernel⟩
theorem d_X9_winningTimes_0 : q_dec prog_1_method_32_code 0 (.iload_n 1) 1 1 := ⟨by decide +kernel, rfl⟩
theorem d_X9_winningTimes_1 : q_dec prog_1_method_32_code 1 (.iconst 1) 1 2 := ⟨by decide +kernel, rfl⟩
theorem d_X9_winningTimes_2 : q_dec prog_1_method_32_code 2 (.if_icmp .ge 5) 3 5 := ⟨by decide +kernel, rfl⟩
theorem d_X9_winningTimes_5 : q_dec prog_1_method_32_code 5 (.iconst 0) 1 6 := ⟨by decide +kernel, rfl⟩
theorem d_X9_winningTimes_6 : q_dec prog_1_method_32_code 6 (.ireturn) 1 7 := ⟨by decide +kernel, rfl⟩
theorem d_X9_winningTimes_7 : q_dec prog_1_method_32_code 7 (.iload_n 0) 1 8 := ⟨by decide +kernel, rfl⟩
theorem d_X9_winningTimes_8 : q_dec prog_1_method_32_code 8 (.iload_n 1) 1 9 := ⟨by decide +kernel, rfl⟩
theorem d_X9_winningTimes_9 : q_dec prog_1_method_32_code 9 (.idiv) 1 10 := ⟨by decide +kernel, rfl⟩
theorem d_X9_winningTimes_10 : q_dec prog_1_method_32_code 10 (.istore_n 2) 1 11 := ⟨by decide +kernel, rfl⟩
theorem d_X9_winningTimes_11 : q_dec prog_1_method_32_code 11 (.iload_n 0) 1 12 := ⟨by decide +kernel, rfl⟩
theorem d_X9_winningTimes_12 : q_dec prog_1_method_32_code 12 (.iload_n 1) 1 13 := ⟨by decide +kernel, rfl⟩
theorem d_X9_winningTimes_13 : q_dec prog_1_method_32_code 13 (.irem) 1 14 := ⟨by decide +kernel, rfl⟩
theorem d_X9_winningTimes_14 : q_dec prog_1_method_32_code 14 (.istore_n 3) 1 15 := ⟨by decide +kernel, rfl⟩
theorem d_X9_winningTimes_15 : q_dec prog_1_method_32_code 15 (.iload_n 3) 1 16 := ⟨by decide +kernel, rfl⟩
theorem d_X9_winningTimes_16 : q_dec prog_1_method_32_code 16 (.ifCond .eq 11) 3 19 := ⟨by decide +kernel, rfl⟩
theorem d_X9_winningTimes_19 : q_dec prog_1_method_32_code 19 (.iload_n 1) 1 20 := ⟨by decide +kernel, rfl⟩
theorem d_X9_winningTimes_20 : q_dec prog_1_method_32_code 20 (.iload_n 3) 1 21 := ⟨by decide +kernel, rfl⟩
theorem d_X9_winningTimes_21 : q_dec prog_1_method_32_code 21 (.invokestatic 289) 3 24 := ⟨by decide +kernel, rfl⟩
theorem d_X9_winningTimes_24 : q_dec prog_1_method_32_code 24 (.ifCond .ne 5) 3 27 := ⟨by decide +kernel, rfl⟩
theorem d_X9_winningTimes_27 : q_dec prog_1_method_32_code 27 (.iload_n 2) 1 28 := ⟨by decide +kernel, rfl⟩
theorem d_X9_winningTimes_28 : q_dec prog_1_method_32_code 28 (.ireturn) 1 29 := ⟨by decide +kernel, rfl⟩
theorem d_X9_winningTimes_29 : q_dec prog_1_method_32_code 29 (.iload_n 2) 1 30 := ⟨by decide +kernel, rfl⟩
theorem d_X9_winningTimes_30 : q_dec prog_1_method_32_code 30 (.iconst 1) 1 31 := ⟨by decide +kernel, rfl⟩
theorem d_X9_winningTimes_31 : q_dec prog_1_method_32_code 31 (.isub) 1 32 := ⟨by decide +kernel, rfl⟩
theorem d_X9_winningTimes_32 : q_dec prog_1_method_32_code 32 (.ireturn) 1 33 := ⟨by decide +kernel, rfl⟩
theorem m_X9_winningTimes : q_wS y_X9_winningTimes prog_1_method_32_code 4 (some .int) 2 := ⟨q_mem 610 (by decide +kernel) (by decide +kernel), q_mem 609 (by decide +kernel) (by decide +kernel), q_mem 1 (by decide +kernel) (by decide +kernel), by decide +kernel⟩
theorem d_X9_lengths_0 : q_dec prog_1_method_21_code 0 (.iload_n 1) 1 1 := ⟨by decide +kernel, rfl⟩
theorem d_X9_lengths_1 : q_dec prog_1_method_21_code 1 (.iconst 0) 1 2 := ⟨by decide +kernel, rfl⟩
theorem d_X9_lengths_2 : q_dec prog_1_method_21_code 2 (.bipush 99) 2 4 := ⟨by decide +kernel, rfl⟩
theorem d_X9_lengths_4 : q_dec prog_1_method_21_code 4 (.invokestatic 74) 3 7 := ⟨by decide +kernel, rfl⟩
theorem d_X9_lengths_7 : q_dec prog_1_method_21_code 7 (.ifCond .eq 22) 3 10 := ⟨by decide +kernel, rfl⟩
theorem d_X9_lengths_10 : q_dec prog_1_method_21_code 10 (.iload_n 2) 1 11 := ⟨by decide +kernel, rfl⟩
theorem d_X9_lengths_11 : q_dec prog_1_method_21_code 11 (.iconst 0) 1 12 := ⟨by decide +kernel, rfl⟩
theorem d_X9_lengths_12 : q_dec prog_1_method_21_code 12 (.bipush 99) 2 14 := ⟨by decide +kernel, rfl⟩
theorem d_X9_lengths_14 : q_dec prog_1_method_21_code 14 (.invokestatic 74) 3 17 := ⟨by decide +kernel, rfl⟩
theorem d_X9_lengths_17 : q_dec prog_1_method_21_code 17 (.ifCond .eq 12) 3 20 := ⟨by decide +kernel, rfl⟩
theorem d_X9_lengths_20 : q_dec prog_1_method_21_code 20 (.iload_n 3) 1 21 := ⟨by decide +kernel, rfl⟩
theorem d_X9_lengths_21 : q_dec prog_1_method_21_code 21 (.iconst 0) 1 22 := ⟨by decide +kernel, rfl⟩
theorem d_X9_lengths_22 : q_dec prog_1_method_21_code 22 (.iconst 1) 1 23 := ⟨by decide +kernel, rfl⟩
theorem d_X9_lengths_23 : q_dec prog_1_method_21_code 23 (.invokestatic 74) 3 26 := ⟨by decide +kernel, rfl⟩
theorem d_X9_lengths_26 : q_dec prog_1_method_21_code 26 (.ifCond .ne 6) 3 29 := ⟨by decide +kernel, rfl⟩
theorem d_X9_lengths_29 : q_dec prog_1_method_21_code 29 (.bipush (-2)) 2 31 := ⟨by decide +kernel, rfl⟩
theorem d_X9_lengths_31 : q_dec prog_1_method_21_code 31 (.ireturn) 1 32 := ⟨by decide +kernel, rfl⟩
theorem d_X9_lengths_32 : q_dec prog_1_method_21_code 32 (.iload_n 1) 1 33 := ⟨by decide +kernel, rfl⟩
theorem d_X9_lengths_33 : q_dec prog_1_method_21_code 33 (.iload_n 2) 1 34 := ⟨by decide +kernel, rfl⟩
theorem d_X9_lengths_34 : q_dec prog_1_method_21_code 34 (.invokestatic 232) 3 37 := ⟨by decide +kernel, rfl⟩
theorem d_X9_lengths_37 : q_dec prog_1_method_21_code 37 (.iload_n 1) 1 38 := ⟨by decide +kernel, rfl⟩
theorem d_X9_lengths_38 : q_dec prog_1_method_21_code 38 (.iload_n 2) 1 39 := ⟨by decide +kernel, rfl⟩
theorem d_X9_lengths_39 : q_dec prog_1_method_21_code 39 (.invokestatic 238) 3 42 := ⟨by decide +kernel, rfl⟩
theorem d_X9_lengths_42 : q_dec prog_1_method_21_code 42 (.invokestatic 241) 3 45 := ⟨by decide +kernel, rfl⟩
theorem d_X9_lengths_45 : q_dec prog_1_method_21_code 45 (.istore 4) 2 47 := ⟨by decide +kernel, rfl⟩
theorem d_X9_lengths_47 : q_dec prog_1_method_21_code 47 (.iload_n 3) 1 48 := ⟨by decide +kernel, rfl⟩
theorem d_X9_lengths_48 : q_dec prog_1_method_21_code 48 (.ifCond .ne 14) 3 51 := ⟨by decide +kernel, rfl⟩
theorem d_X9_lengths_51 : q_dec prog_1_method_21_code 51 (.iload 4) 2 53 := ⟨by decide +kernel, rfl⟩
theorem d_X9_lengths_53 : q_dec prog_1_method_21_code 53 (.ifCond .le 7) 3 56 := ⟨by decide +kernel, rfl⟩
theorem d_X9_lengths_56 : q_dec prog_1_method_21_code 56 (.iconst 1) 1 57 := ⟨by decide +kernel, rfl⟩
theorem d_X9_lengths_57 : q_dec prog_1_method_21_code 57 (.goto 4) 3 60 := ⟨by decide +kernel, rfl⟩
theorem d_X9_lengths_60 : q_dec prog_1_method_21_code 60 (.iconst 0) 1 61 := ⟨by decide +kernel, rfl⟩
theorem d_X9_lengths_61 : q_dec prog_1_method_21_code 61 (.ireturn) 1 62 := ⟨by decide +kernel, rfl⟩
theorem d_X9_lengths_62 : q_dec prog_1_method_21_code 62 (.iload 4) 2 64 := ⟨by decide +kernel, rfl⟩
theorem d_X9_lengths_64 : q_dec prog_1_method_21_code 64 (.ifCond .le 8) 3 67 := ⟨by decide +kernel, rfl⟩
theorem d_X9_lengths_67 : q_dec prog_1_method_21_code 67 (.iload 4) 2 69 := ⟨by decide +kernel, rfl⟩
theorem d_X9_lengths_69 : q_dec prog_1_method_21_code 69 (.goto 5) 3 72 := ⟨by decide +kernel, rfl⟩
theorem d_X9_lengths_72 : q_dec prog_1_method_21_code 72 (.bipush (-6)) 2 74 := ⟨by decide +kernel, rfl⟩
theorem d_X9_lengths_74 : q_dec prog_1_method_21_code 74 (.ireturn) 1 75 := ⟨by decide +kernel, rfl⟩
theorem m_X9_lengths : q_wV y_X9_lengths prog_1_method_21_code 5 (some .int) 3 := ⟨q_mem 603 (by decide +kernel) (by decide +kernel), q_mem 601 (by decide +kernel) (by decide +kernel), q_mem 602 (by decide +kernel) (by decide +kernel), q_mem 1 (by decide +kernel) (by decide +kernel), by decide +kernel⟩
theorem d_X9_commonDivisor_0 : q_dec prog_1_method_34_code 0 (.lload_n 0) 1 1 := ⟨by decide +kernel, rfl⟩
theorem d_X9_commonDivisor_1 : q_dec prog_1_method_34_code 1 (.lstore 4) 2 3 := ⟨by decide +kernel, rfl⟩
theorem d_X9_commonDivisor_3 : q_dec prog_1_method_34_code 3 (.lload_n 2) 1 4 := ⟨by decide +kernel, rfl⟩
theorem d_X9_commonDivisor_4 : q_dec prog_1_method_34_code 4 (.lstore 6) 2 6 := ⟨by decide +kernel, rfl⟩
theorem d_X9_commonDivisor_6 : q_dec prog_1_method_34_code 6 (.iconst 0) 1 7 := ⟨by decide +kernel, rfl⟩
theorem d_X9_commonDivisor_7 : q_dec prog_1_method_34_code 7 (.istore 8) 2 9 := ⟨by decide +kernel, rfl⟩
theorem d_X9_commonDivisor_9 : q_dec prog_1_method_34_code 9 (.iload 8) 2 11 := ⟨by decide +kernel, rfl⟩
theorem d_X9_commonDivisor_11 : q_dec prog_1_method_34_code 11 (.sipush 200) 3 14 := ⟨by decide +kernel, rfl⟩
theorem d_X9_commonDivisor_14 : q_dec prog_1_method_34_code 14 (.if_icmp .ge 31) 3 17 := ⟨by decide +kernel, rfl⟩
theorem d_X9_commonDivisor_17 : q_dec prog_1_method_34_code 17 (.lload 6) 2 19 := ⟨by decide +kernel, rfl⟩
theorem d_X9_commonDivisor_19 : q_dec prog_1_method_34_code 19 (.lconst 0) 1 20 := ⟨by decide +kernel, rfl⟩
theorem d_X9_commonDivisor_20 : q_dec prog_1_method_34_code 20 (.lcmp) 1 21 := ⟨by decide +kernel, rfl⟩
theorem d_X9_commonDivisor_21 : q_dec prog_1_method_34_code 21 (.ifCond .eq 24) 3 24 := ⟨by decide +kernel, rfl⟩
theorem d_X9_commonDivisor_24 : q_dec prog_1_method_34_code 24 (.lload 4) 2 26 := ⟨by decide +kernel, rfl⟩
theorem d_X9_commonDivisor_26 : q_dec prog_1_method_34_code 26 (.lload 6) 2 28 := ⟨by decide +kernel, rfl⟩
theorem d_X9_commonDivisor_28 : q_dec prog_1_method_34_code 28 (.lrem) 1 29 := ⟨by decide +kernel, rfl⟩
theorem d_X9_commonDivisor_29 : q_dec prog_1_method_34_code 29 (.lstore 9) 2 31 := ⟨by decide +kernel, rfl⟩
theorem d_X9_commonDivisor_31 : q_dec prog_1_method_34_code 31 (.lload 6) 2 33 := ⟨by decide +kernel, rfl⟩
theorem d_X9_commonDivisor_33 : q_dec prog_1_method_34_code 33 (.lstore 4) 2 35 := ⟨by decide +kernel, rfl⟩
theorem d_X9_commonDivisor_35 : q_dec prog_1_method_34_code 35 (.lload 9) 2 37 := ⟨by decide +kernel, rfl⟩
theorem d_X9_commonDivisor_37 : q_dec prog_1_method_34_code 37 (.lstore 6) 2 39 := ⟨by decide +kernel, rfl⟩
theorem d_X9_commonDivisor_39 : q_dec prog_1_method_34_code 39 (.iinc 8 1) 3 42 := ⟨by decide +kernel, rfl⟩
theorem d_X9_commonDivisor_42 : q_dec prog_1_method_34_code 42 (.goto (-33)) 3 45 := ⟨by decide +kernel, rfl⟩
theorem d_X9_commonDivisor_45 : q_dec prog_1_method_34_code 45 (.lload 4) 2 47 := ⟨by decide +kernel, rfl⟩
theorem d_X9_commonDivisor_47 : q_dec prog_1_method_34_code 47 (.lreturn) 1 48 := ⟨by decide +kernel, rfl⟩
theorem m_X9_commonDivisor : q_wS y_X9_commonDivisor prog_1_method_34_code 11 (some .long) 2 := ⟨q_mem 646 (by decide +kernel) (by decide +kernel), q_mem 645 (by decide +kernel) (by decide +kernel), q_mem 1 (by decide +kernel) (by decide +kernel), by decide +kernel⟩
theorem d_X9_calm_0 : q_dec prog_1_method_22_code 0 (.iload_n 1) 1 1 := ⟨by decide +kernel, rfl⟩
theorem d_X9_calm_1 : q_dec prog_1_method_22_code 1 (.iconst 0) 1 2 := ⟨by decide +kernel, rfl⟩
theorem d_X9_calm_2 : q_dec prog_1_method_22_code 2 (.bipush 15) 2 4 := ⟨by decide +kernel, rfl⟩
theorem d_X9_calm_4 : q_dec prog_1_method_22_code 4 (.invokestatic 74) 3 7 := ⟨by decide +kernel, rfl⟩
theorem d_X9_calm_7 : q_dec prog_1_method_22_code 7 (.ifCond .eq 47) 3 10 := ⟨by decide +kernel, rfl⟩
theorem d_X9_calm_10 : q_dec prog_1_method_22_code 10 (.iload_n 2) 1 11 := ⟨by decide +kernel, rfl⟩
theorem d_X9_calm_11 : q_dec prog_1_method_22_code 11 (.iconst 0) 1 12 := ⟨by decide +kernel, rfl⟩
theorem d_X9_calm_12 : q_dec prog_1_method_22_code 12 (.bipush 10) 2 14 := ⟨by decide +kernel, rfl⟩
theorem d_X9_calm_14 : q_dec prog_1_method_22_code 14 (.invokestatic 74) 3 17 := ⟨by decide +kernel, rfl⟩
theorem d_X9_calm_17 : q_dec prog_1_method_22_code 17 (.ifCond .eq 37) 3 20 := ⟨by decide +kernel, rfl⟩
theorem d_X9_calm_20 : q_dec prog_1_method_22_code 20 (.iload_n 3) 1 21 := ⟨by decide +kernel, rfl⟩
theorem d_X9_calm_21 : q_dec prog_1_method_22_code 21 (.iconst 0) 1 22 := ⟨by decide +kernel, rfl⟩
theorem d_X9_calm_22 : q_dec prog_1_method_22_code 22 (.bipush 15) 2 24 := ⟨by decide +kernel, rfl⟩
theorem d_X9_calm_24 : q_dec prog_1_method_22_code 24 (.invokestatic 74) 3 27 := ⟨by decide +kernel, rfl⟩
theorem d_X9_calm_27 : q_dec prog_1_method_22_code 27 (.ifCond .eq 27) 3 30 := ⟨by decide +kernel, rfl⟩
theorem d_X9_calm_30 : q_dec prog_1_method_22_code 30 (.iload 4) 2 32 := ⟨by decide +kernel, rfl⟩
theorem d_X9_calm_32 : q_dec prog_1_method_22_code 32 (.iconst 0) 1 33 := ⟨by decide +kernel, rfl⟩
theorem d_X9_calm_33 : q_dec prog_1_method_22_code 33 (.iconst 1) 1 34 := ⟨by decide +kernel, rfl⟩
theorem d_X9_calm_34 : q_dec prog_1_method_22_code 34 (.invokestatic 74) 3 37 := ⟨by decide +kernel, rfl⟩
theorem d_X9_calm_37 : q_dec prog_1_method_22_code 37 (.ifCond .eq 17) 3 40 := ⟨by decide +kernel, rfl⟩
theorem d_X9_calm_40 : q_dec prog_1_method_22_code 40 (.iload 5) 2 42 := ⟨by decide +kernel, rfl⟩
theorem d_X9_calm_42 : q_dec prog_1_method_22_code 42 (.iconst 0) 1 43 := ⟨by decide +kernel, rfl⟩
theorem d_X9_calm_43 : q_dec prog_1_method_22_code 43 (.iconst 1) 1 44 := ⟨by decide +kernel, rfl⟩
theorem d_X9_calm_44 : q_dec prog_1_method_22_code 44 (.invokestatic 74) 3 47 := ⟨by decide +kernel, rfl⟩
theorem d_X9_calm_47 : q_dec prog_1_method_22_code 47 (.ifCond .eq 7) 3 50 := ⟨by decide +kernel, rfl⟩
theorem d_X9_calm_50 : q_dec prog_1_method_22_code 50 (.iconst 1) 1 51 := ⟨by decide +kernel, rfl⟩
theorem d_X9_calm_51 : q_dec prog_1_method_22_code 51 (.goto 4) 3 54 := ⟨by decide +kernel, rfl⟩
theorem d_X9_calm_54 : q_dec prog_1_method_22_code 54 (.iconst 0) 1 55 := ⟨by decide +kernel, rfl⟩
theorem d_X9_calm_55 : q_dec prog_1_method_22_code 55 (.istore 6) 2 57 := ⟨by decide +kernel, rfl⟩
theorem d_X9_calm_57 : q_dec prog_1_method_22_code 57 (.iload 6) 2 59 := ⟨by decide +kernel, rfl⟩
theorem d_X9_calm_59 : q_dec prog_1_method_22_code 59 (.ifCond .ne 7) 3 62 := ⟨by decide +kernel, rfl⟩
theorem d_X9_calm_62 : q_dec prog_1_method_22_code 62 (.ldc2_w 244) 3 65 := ⟨by decide +kernel, rfl⟩
theorem d_X9_calm_65 : q_dec prog_1_method_22_code 65 (.lreturn) 1 66 := ⟨by decide +kernel, rfl⟩
theorem d_X9_calm_66 : q_dec prog_1_method_22_code 66 (.iload 4) 2 68 := ⟨by decide +kernel, rfl⟩
theorem d_X9_calm_68 : q_dec prog_1_method_22_code 68 (.ifCond .ne 16) 3 71 := ⟨by decide +kernel, rfl⟩
theorem d_X9_calm_71 : q_dec prog_1_method_22_code 71 (.aload_n 0) 1 72 := ⟨by decide +kernel, rfl⟩
theorem d_X9_calm_72 : q_dec prog_1_method_22_code 72 (.getfield 62) 3 75 := ⟨by decide +kernel, rfl⟩
theorem d_X9_calm_75 : q_dec prog_1_method_22_code 75 (.iload_n 1) 1 76 := ⟨by decide +kernel, rfl⟩
theorem d_X9_calm_76 : q_dec prog_1_method_22_code 76 (.iload_n 2) 1 77 := ⟨by decide +kernel, rfl⟩
theorem d_X9_calm_77 : q_dec prog_1_method_22_code 77 (.iload_n 3) 1 78 := ⟨by decide +kernel, rfl⟩
theorem d_X9_calm_78 : q_dec prog_1_method_22_code 78 (.invokevirtual 246) 3 81 := ⟨by decide +kernel, rfl⟩
theorem d_X9_calm_81 : q_dec prog_1_method_22_code 81 (.goto 12) 3 84 := ⟨by decide +kernel, rfl⟩
theorem d_X9_calm_84 : q_dec prog_1_method_22_code 84 (.aload_n 0) 1 85 := ⟨by decide +kernel, rfl⟩
theorem d_X9_calm_85 : q_dec prog_1_method_22_code 85 (.getfield 62) 3 88 := ⟨by decide +kernel, rfl⟩
theorem d_X9_calm_88 : q_dec prog_1_method_22_code 88 (.iload_n 1) 1 89 := ⟨by decide +kernel, rfl⟩
theorem d_X9_calm_89 : q_dec prog_1_method_22_code 89 (.iload_n 2) 1 90 := ⟨by decide +kernel, rfl⟩
theorem d_X9_calm_90 : q_dec prog_1_method_22_code 90 (.invokevirtual 250) 3 93 := ⟨by decide +kernel, rfl⟩
theorem d_X9_calm_93 : q_dec prog_1_method_22_code 93 (.lstore 7) 2 95 := ⟨by decide +kernel, rfl⟩
theorem d_X9_calm_95 : q_dec prog_1_method_22_code 95 (.iload_n 1) 1 96 := ⟨by decide +kernel, rfl⟩
theorem d_X9_calm_96 : q_dec prog_1_method_22_code 96 (.invokestatic 254) 3 99 := ⟨by decide +kernel, rfl⟩
theorem d_X9_calm_99 : q_dec prog_1_method_22_code 99 (.lstore 9) 2 101 := ⟨by decide +kernel, rfl⟩
theorem d_X9_calm_101 : q_dec prog_1_method_22_code 101 (.lload 7) 2 103 := ⟨by decide +kernel, rfl⟩
theorem d_X9_calm_103 : q_dec prog_1_method_22_code 103 (.lload 9) 2 105 := ⟨by decide +kernel, rfl⟩
theorem d_X9_calm_105 : q_dec prog_1_method_22_code 105 (.invokestatic 258) 3 108 := ⟨by decide +kernel, rfl⟩
theorem d_X9_calm_108 : q_dec prog_1_method_22_code 108 (.lstore 11) 2 110 := ⟨by decide +kernel, rfl⟩
theorem d_X9_calm_110 : q_dec prog_1_method_22_code 110 (.lload 11) 2 112 := ⟨by decide +kernel, rfl⟩
theorem d_X9_calm_112 : q_dec prog_1_method_22_code 112 (.lconst 1) 1 113 := ⟨by decide +kernel, rfl⟩
theorem d_X9_calm_113 : q_dec prog_1_method_22_code 113 (.lcmp) 1 114 := ⟨by decide +kernel, rfl⟩
theorem d_X9_calm_114 : q_dec prog_1_method_22_code 114 (.ifCond .ge 16) 3 117 := ⟨by decide +kernel, rfl⟩
theorem d_X9_calm_117 : q_dec prog_1_method_22_code 117 (.iload 5) 2 119 := ⟨by decide +kernel, rfl⟩
theorem d_X9_calm_119 : q_dec prog_1_method_22_code 119 (.ifCond .ne 8) 3 122 := ⟨by decide +kernel, rfl⟩
theorem d_X9_calm_122 : q_dec prog_1_method_22_code 122 (.lload 7) 2 124 := ⟨by decide +kernel, rfl⟩
theorem d_X9_calm_124 : q_dec prog_1_method_22_code 124 (.goto 5) 3 127 := ⟨by decide +kernel, rfl⟩
theorem d_X9_calm_127 : q_dec prog_1_method_22_code 127 (.lload 9) 2 129 := ⟨by decide +kernel, rfl⟩
theorem d_X9_calm_129 : q_dec prog_1_method_22_code 129 (.lreturn) 1 130 := ⟨by decide +kernel, rfl⟩
theorem d_X9_calm_130 : q_dec prog_1_method_22_code 130 (.iload 5) 2 132 := ⟨by decide +kernel, rfl⟩
theorem d_X9_calm_132 : q_dec prog_1_method_22_code 132 (.ifCond .ne 11) 3 135 := ⟨by decide +kernel, rfl⟩
theorem d_X9_calm_135 : q_dec prog_1_method_22_code 135 (.lload 7) 2 137 := ⟨by decide +kernel, rfl⟩
theorem d_X9_calm_137 : q_dec prog_1_method_22_code 137 (.lload 11) 2 139 := ⟨by decide +kernel, rfl⟩
theorem d_X9_calm_139 : q_dec prog_1_method_22_code 139 (.ldiv) 1 140 := ⟨by decide +kernel, rfl⟩
theorem d_X9_calm_140 : q_dec prog_1_method_22_code 140 (.goto 8) 3 143 := ⟨by decide +kernel, rfl⟩
theorem d_X9_calm_143 : q_dec prog_1_method_22_code 143 (.lload 9) 2 145 := ⟨by decide +kernel, rfl⟩
theorem d_X9_calm_145 : q_dec prog_1_method_22_code 145 (.lload 11) 2 147 := ⟨by decide +kernel, rfl⟩
theorem d_X9_calm_147 : q_dec prog_1_method_22_code 147 (.ldiv) 1 148 := ⟨by decide +kernel, rfl⟩
theorem d_X9_calm_148 : q_dec prog_1_method_22_code 148 (.lreturn) 1 149 := ⟨by decide +kernel, rfl⟩
theorem m_X9_calm : q_wV y_X9_calm prog_1_method_22_code 13 (some .long) 5 := ⟨q_mem 617 (by decide +kernel) (by decide +kernel), q_mem 615 (by decide +kernel) (by decide +kernel), q_mem 616 (by decide +kernel) (by decide +kernel), q_mem 1 (by decide +kernel) (by decide +kernel), by decide +kernel⟩
theorem d_X9_drawYear_0 : q_dec prog_1_method_35_code 0 (.iload_n 1) 1 1 := ⟨by decide +kernel, rfl⟩
theorem d_X9_drawYear_1 : q_dec prog_1_method_35_code 1 (.istore_n 3) 1 2 := ⟨by decide +kernel, rfl⟩
theorem d_X9_drawYear_2 : q_dec prog_1_method_35_code 2 (.iconst 0) 1 3 := ⟨by decide +kernel, rfl⟩
theorem d_X9_drawYear_3 : q_dec prog_1_method_35_code 3 (.istore 4) 2 5 := ⟨by decide +kernel, rfl⟩
theorem d_X9_drawYear_5 : q_dec prog_1_method_35_code 5 (.iload 4) 2 7 := ⟨by decide +kernel, rfl⟩
theorem d_X9_drawYear_7 : q_dec prog_1_method_35_code 7 (.iload_n 2) 1 8 := ⟨by decide +kernel, rfl⟩
theorem d_X9_drawYear_8 : q_dec prog_1_method_35_code 8 (.if_icmp .ge 62) 3 11 := ⟨by decide +kernel, rfl⟩
theorem d_X9_drawYear_11 : q_dec prog_1_method_35_code 11 (.bipush 75) 2 13 := ⟨by decide +kernel, rfl⟩
theorem d_X9_drawYear_13 : q_dec prog_1_method_35_code 13 (.iload_n 3) 1 14 := ⟨by decide +kernel, rfl⟩
theorem d_X9_drawYear_14 : q_dec prog_1_method_35_code 14 (.imul) 1 15 := ⟨by decide +kernel, rfl⟩
theorem d_X9_drawYear_15 : q_dec prog_1_method_35_code 15 (.bipush 74) 2 17 := ⟨by decide +kernel, rfl⟩
theorem d_X9_drawYear_17 : q_dec prog_1_method_35_code 17 (.iadd) 1 18 := ⟨by decide +kernel, rfl⟩
theorem d_X9_drawYear_18 : q_dec prog_1_method_35_code 18 (.ldc_w 292) 3 21 := ⟨by decide +kernel, rfl⟩
theorem d_X9_drawYear_21 : q_dec prog_1_method_35_code 21 (.irem) 1 22 := ⟨by decide +kernel, rfl⟩
theorem d_X9_drawYear_22 : q_dec prog_1_method_35_code 22 (.istore_n 3) 1 23 := ⟨by decide +kernel, rfl⟩
theorem d_X9_drawYear_23 : q_dec prog_1_method_35_code 23 (.iload_n 3) 1 24 := ⟨by decide +kernel, rfl⟩
theorem d_X9_drawYear_24 : q_dec prog_1_method_35_code 24 (.bipush 6) 2 26 := ⟨by decide +kernel, rfl⟩
theorem d_X9_drawYear_26 : q_dec prog_1_method_35_code 26 (.irem) 1 27 := ⟨by decide +kernel, rfl⟩
theorem d_X9_drawYear_27 : q_dec prog_1_method_35_code 27 (.istore 5) 2 29 := ⟨by decide +kernel, rfl⟩
theorem d_X9_drawYear_29 : q_dec prog_1_method_35_code 29 (.getstatic 293) 3 32 := ⟨by decide +kernel, rfl⟩
theorem d_X9_drawYear_32 : q_dec prog_1_method_35_code 32 (.iload_n 3) 1 33 := ⟨by decide +kernel, rfl⟩
theorem d_X9_drawYear_33 : q_dec prog_1_method_35_code 33 (.bipush 6) 2 35 := ⟨by decide +kernel, rfl⟩
theorem d_X9_drawYear_35 : q_dec prog_1_method_35_code 35 (.idiv) 1 36 := ⟨by decide +kernel, rfl⟩
theorem d_X9_drawYear_36 : q_dec prog_1_method_35_code 36 (.bipush 8) 2 38 := ⟨by decide +kernel, rfl⟩
theorem d_X9_drawYear_38 : q_dec prog_1_method_35_code 38 (.irem) 1 39 := ⟨by decide +kernel, rfl⟩
theorem d_X9_drawYear_39 : q_dec prog_1_method_35_code 39 (.bipush 7) 2 41 := ⟨by decide +kernel, rfl⟩
theorem d_X9_drawYear_41 : q_dec prog_1_method_35_code 41 (.iand) 1 42 := ⟨by decide +kernel, rfl⟩
theorem d_X9_drawYear_42 : q_dec prog_1_method_35_code 42 (.caload) 1 43 := ⟨by decide +kernel, rfl⟩
theorem d_X9_drawYear_43 : q_dec prog_1_method_35_code 43 (.istore 6) 2 45 := ⟨by decide +kernel, rfl⟩
theorem d_X9_drawYear_45 : q_dec prog_1_method_35_code 45 (.aload_n 0) 1 46 := ⟨by decide +kernel, rfl⟩
theorem d_X9_drawYear_46 : q_dec prog_1_method_35_code 46 (.iload 5) 2 48 := ⟨by decide +kernel, rfl⟩
theorem d_X9_drawYear_48 : q_dec prog_1_method_35_code 48 (.iload 6) 2 50 := ⟨by decide +kernel, rfl⟩
theorem d_X9_drawYear_50 : q_dec prog_1_method_35_code 50 (.invokevirtual 297) 3 53 := ⟨by decide +kernel, rfl⟩
theorem d_X9_drawYear_53 : q_dec prog_1_method_35_code 53 (.ifCond .ne 11) 3 56 := ⟨by decide +kernel, rfl⟩
theorem d_X9_drawYear_56 : q_dec prog_1_method_35_code 56 (.aload_n 0) 1 57 := ⟨by decide +kernel, rfl⟩
theorem d_X9_drawYear_57 : q_dec prog_1_method_35_code 57 (.iload 5) 2 59 := ⟨by decide +kernel, rfl⟩
theorem d_X9_drawYear_59 : q_dec prog_1_method_35_code 59 (.iload 6) 2 61 := ⟨by decide +kernel, rfl⟩
theorem d_X9_drawYear_61 : q_dec prog_1_method_35_code 61 (.invokevirtual 301) 3 64 := ⟨by decide +kernel, rfl⟩
theorem d_X9_drawYear_64 : q_dec prog_1_method_35_code 64 (.iinc 4 1) 3 67 := ⟨by decide +kernel, rfl⟩
theorem d_X9_drawYear_67 : q_dec prog_1_method_35_code 67 (.goto (-62)) 3 70 := ⟨by decide +kernel, rfl⟩
theorem d_X9_drawYear_70 : q_dec prog_1_method_35_code 70 (.return_) 1 71 := ⟨by decide +kernel, rfl⟩
theorem m_X9_drawYear : q_wS y_X9_drawYear prog_1_method_35_code 7 none 3 := ⟨q_mem 653 (by decide +kernel) (by decide +kernel), q_mem 652 (by decide +kernel) (by decide +kernel), q_mem 1 (by decide +kernel) (by decide +kernel), by decide +kernel⟩
theorem d_X9_year_0 : q_dec prog_1_method_23_code 0 (.iload_n 1) 1 1 := ⟨by decide +kernel, rfl⟩
theorem d_X9_year_1 : q_dec prog_1_method_23_code 1 (.iconst 0) 1 2 := ⟨by decide +kernel, rfl⟩
theorem d_X9_year_2 : q_dec prog_1_method_23_code 2 (.sipush 9999) 3 5 := ⟨by decide +kernel, rfl⟩
theorem d_X9_year_5 : q_dec prog_1_method_23_code 5 (.invokestatic 74) 3 8 := ⟨by decide +kernel, rfl⟩
theorem d_X9_year_8 : q_dec prog_1_method_23_code 8 (.ifCond .eq 22) 3 11 := ⟨by decide +kernel, rfl⟩
theorem d_X9_year_11 : q_dec prog_1_method_23_code 11 (.iload_n 2) 1 12 := ⟨by decide +kernel, rfl⟩
theorem d_X9_year_12 : q_dec prog_1_method_23_code 12 (.iconst 1) 1 13 := ⟨by decide +kernel, rfl⟩
theorem d_X9_year_13 : q_dec prog_1_method_23_code 13 (.bipush 99) 2 15 := ⟨by decide +kernel, rfl⟩
theorem d_X9_year_15 : q_dec prog_1_method_23_code 15 (.invokestatic 74) 3 18 := ⟨by decide +kernel, rfl⟩
theorem d_X9_year_18 : q_dec prog_1_method_23_code 18 (.ifCond .eq 12) 3 21 := ⟨by decide +kernel, rfl⟩
theorem d_X9_year_21 : q_dec prog_1_method_23_code 21 (.iload_n 3) 1 22 := ⟨by decide +kernel, rfl⟩
theorem d_X9_year_22 : q_dec prog_1_method_23_code 22 (.iconst 0) 1 23 := ⟨by decide +kernel, rfl⟩
theorem d_X9_year_23 : q_dec prog_1_method_23_code 23 (.iconst 2) 1 24 := ⟨by decide +kernel, rfl⟩
theorem d_X9_year_24 : q_dec prog_1_method_23_code 24 (.invokestatic 74) 3 27 := ⟨by decide +kernel, rfl⟩
theorem d_X9_year_27 : q_dec prog_1_method_23_code 27 (.ifCond .ne 6) 3 30 := ⟨by decide +kernel, rfl⟩
theorem d_X9_year_30 : q_dec prog_1_method_23_code 30 (.bipush (-2)) 2 32 := ⟨by decide +kernel, rfl⟩
theorem d_X9_year_32 : q_dec prog_1_method_23_code 32 (.ireturn) 1 33 := ⟨by decide +kernel, rfl⟩
theorem d_X9_year_33 : q_dec prog_1_method_23_code 33 (.aload_n 0) 1 34 := ⟨by decide +kernel, rfl⟩
theorem d_X9_year_34 : q_dec prog_1_method_23_code 34 (.getfield 26) 3 37 := ⟨by decide +kernel, rfl⟩
theorem d_X9_year_37 : q_dec prog_1_method_23_code 37 (.getfield 136) 3 40 := ⟨by decide +kernel, rfl⟩
theorem d_X9_year_40 : q_dec prog_1_method_23_code 40 (.astore 4) 2 42 := ⟨by decide +kernel, rfl⟩
theorem d_X9_year_42 : q_dec prog_1_method_23_code 42 (.aload 4) 2 44 := ⟨by decide +kernel, rfl⟩
theorem d_X9_year_44 : q_dec prog_1_method_23_code 44 (.aload_n 0) 1 45 := ⟨by decide +kernel, rfl⟩
theorem d_X9_year_45 : q_dec prog_1_method_23_code 45 (.getfield 19) 3 48 := ⟨by decide +kernel, rfl⟩
theorem d_X9_year_48 : q_dec prog_1_method_23_code 48 (.invokevirtual 139) 3 51 := ⟨by decide +kernel, rfl⟩
theorem d_X9_year_51 : q_dec prog_1_method_23_code 51 (.aload 4) 2 53 := ⟨by decide +kernel, rfl⟩
theorem d_X9_year_53 : q_dec prog_1_method_23_code 53 (.iload_n 1) 1 54 := ⟨by decide +kernel, rfl⟩
theorem d_X9_year_54 : q_dec prog_1_method_23_code 54 (.iload_n 2) 1 55 := ⟨by decide +kernel, rfl⟩
theorem d_X9_year_55 : q_dec prog_1_method_23_code 55 (.invokestatic 262) 3 58 := ⟨by decide +kernel, rfl⟩
theorem d_X9_year_58 : q_dec prog_1_method_23_code 58 (.iload_n 3) 1 59 := ⟨by decide +kernel, rfl⟩
theorem d_X9_year_59 : q_dec prog_1_method_23_code 59 (.lookupswitch 37 #[(0, 25), (1, 31)]) 25 84 := ⟨by decide +kernel, rfl⟩
theorem d_X9_year_84 : q_dec prog_1_method_23_code 84 (.aload 4) 2 86 := ⟨by decide +kernel, rfl⟩
theorem d_X9_year_86 : q_dec prog_1_method_23_code 86 (.invokevirtual 266) 3 89 := ⟨by decide +kernel, rfl⟩
theorem d_X9_year_89 : q_dec prog_1_method_23_code 89 (.ireturn) 1 90 := ⟨by decide +kernel, rfl⟩
theorem d_X9_year_90 : q_dec prog_1_method_23_code 90 (.aload 4) 2 92 := ⟨by decide +kernel, rfl⟩
theorem d_X9_year_92 : q_dec prog_1_method_23_code 92 (.invokevirtual 163) 3 95 := ⟨by decide +kernel, rfl⟩
theorem d_X9_year_95 : q_dec prog_1_method_23_code 95 (.ireturn) 1 96 := ⟨by decide +kernel, rfl⟩
theorem d_X9_year_96 : q_dec prog_1_method_23_code 96 (.aload 4) 2 98 := ⟨by decide +kernel, rfl⟩
theorem d_X9_year_98 : q_dec prog_1_method_23_code 98 (.getfield 157) 3 101 := ⟨by decide +kernel, rfl⟩
theorem d_X9_year_101 : q_dec prog_1_method_23_code 101 (.ifCond .eq 7) 3 104 := ⟨by decide +kernel, rfl⟩
theorem d_X9_year_104 : q_dec prog_1_method_23_code 104 (.iconst 1) 1 105 := ⟨by decide +kernel, rfl⟩
theorem d_X9_year_105 : q_dec prog_1_method_23_code 105 (.goto 4) 3 108 := ⟨by decide +kernel, rfl⟩
theorem d_X9_year_108 : q_dec prog_1_method_23_code 108 (.iconst 0) 1 109 := ⟨by decide +kernel, rfl⟩
theorem d_X9_year_109 : q_dec prog_1_method_23_code 109 (.ireturn) 1 110 := ⟨by decide +kernel, rfl⟩
theorem m_X9_year : q_wV y_X9_year prog_1_method_23_code 5 (some .int) 3 := ⟨q_mem 650 (by decide +kernel) (by decide +kernel), q_mem 648 (by decide +kernel) (by decide +kernel), q_mem 649 (by decide +kernel) (by decide +kernel), q_mem 1 (by decide +kernel) (by decide +kernel), by decide +kernel⟩
theorem d_X9_image_0 : q_dec prog_1_method_24_code 0 (.iload_n 1) 1 1 := ⟨by decide +kernel, rfl⟩
theorem d_X9_image_1 : q_dec prog_1_method_24_code 1 (.iconst 0) 1 2 := ⟨by decide +kernel, rfl⟩
theorem d_X9_image_2 : q_dec prog_1_method_24_code 2 (.iconst 1) 1 3 := ⟨by decide +kernel, rfl⟩
theorem d_X9_image_3 : q_dec prog_1_method_24_code 3 (.invokestatic 74) 3 6 := ⟨by decide +kernel, rfl⟩
theorem d_X9_image_6 : q_dec prog_1_method_24_code 6 (.ifCond .ne 6) 3 9 := ⟨by decide +kernel, rfl⟩
theorem d_X9_image_9 : q_dec prog_1_method_24_code 9 (.bipush (-2)) 2 11 := ⟨by decide +kernel, rfl⟩
theorem d_X9_image_11 : q_dec prog_1_method_24_code 11 (.ireturn) 1 12 := ⟨by decide +kernel, rfl⟩
theorem d_X9_image_12 : q_dec prog_1_method_24_code 12 (.aload_n 0) 1 13 := ⟨by decide +kernel, rfl⟩
theorem d_X9_image_13 : q_dec prog_1_method_24_code 13 (.getfield 30) 3 16 := ⟨by decide +kernel, rfl⟩
theorem d_X9_image_16 : q_dec prog_1_method_24_code 16 (.iload_n 1) 1 17 := ⟨by decide +kernel, rfl⟩
theorem d_X9_image_17 : q_dec prog_1_method_24_code 17 (.aaload) 1 18 := ⟨by decide +kernel, rfl⟩
theorem d_X9_image_18 : q_dec prog_1_method_24_code 18 (.aload_n 0) 1 19 := ⟨by decide +kernel, rfl⟩
theorem d_X9_image_19 : q_dec prog_1_method_24_code 19 (.getfield 19) 3 22 := ⟨by decide +kernel, rfl⟩
theorem d_X9_image_22 : q_dec prog_1_method_24_code 22 (.invokevirtual 139) 3 25 := ⟨by decide +kernel, rfl⟩
theorem d_X9_image_25 : q_dec prog_1_method_24_code 25 (.aload_n 0) 1 26 := ⟨by decide +kernel, rfl⟩
theorem d_X9_image_26 : q_dec prog_1_method_24_code 26 (.getfield 34) 3 29 := ⟨by decide +kernel, rfl⟩
theorem d_X9_image_29 : q_dec prog_1_method_24_code 29 (.iload_n 1) 1 30 := ⟨by decide +kernel, rfl⟩
theorem d_X9_image_30 : q_dec prog_1_method_24_code 30 (.iconst 1) 1 31 := ⟨by decide +kernel, rfl⟩
theorem d_X9_image_31 : q_dec prog_1_method_24_code 31 (.bastore) 1 32 := ⟨by decide +kernel, rfl⟩
theorem d_X9_image_32 : q_dec prog_1_method_24_code 32 (.iconst 1) 1 33 := ⟨by decide +kernel, rfl⟩
theorem d_X9_image_33 : q_dec prog_1_method_24_code 33 (.ireturn) 1 34 := ⟨by decide +kernel, rfl⟩
theorem m_X9_image : q_wV y_X9_image prog_1_method_24_code 2 (some .int) 1 := ⟨q_mem 666 (by decide +kernel) (by decide +kernel), q_mem 664 (by decide +kernel) (by decide +kernel), q_mem 665 (by decide +kernel) (by decide +kernel), q_mem 1 (by decide +kernel) (by decide +kernel), by decide +kernel⟩
theorem d_X9_restore_0 : q_dec prog_1_method_25_code 0 (.iload_n 1) 1 1 := ⟨by decide +kernel, rfl⟩
theorem d_X9_restore_1 : q_dec prog_1_method_25_code 1 (.iconst 0) 1 2 := ⟨by decide +kernel, rfl⟩
theorem d_X9_restore_2 : q_dec prog_1_method_25_code 2 (.iconst 1) 1 3 := ⟨by decide +kernel, rfl⟩
theorem d_X9_restore_3 : q_dec prog_1_method_25_code 3 (.invokestatic 74) 3 6 := ⟨by decide +kernel, rfl⟩
theorem d_X9_restore_6 : q_dec prog_1_method_25_code 6 (.ifCond .ne 6) 3 9 := ⟨by decide +kernel, rfl⟩
theorem d_X9_restore_9 : q_dec prog_1_method_25_code 9 (.bipush (-2)) 2 11 := ⟨by decide +kernel, rfl⟩
theorem d_X9_restore_11 : q_dec prog_1_method_25_code 11 (.ireturn) 1 12 := ⟨by decide +kernel, rfl⟩
theorem d_X9_restore_12 : q_dec prog_1_method_25_code 12 (.aload_n 0) 1 13 := ⟨by decide +kernel, rfl⟩
theorem d_X9_restore_13 : q_dec prog_1_method_25_code 13 (.getfield 34) 3 16 := ⟨by decide +kernel, rfl⟩
theorem d_X9_restore_16 : q_dec prog_1_method_25_code 16 (.iload_n 1) 1 17 := ⟨by decide +kernel, rfl⟩
theorem d_X9_restore_17 : q_dec prog_1_method_25_code 17 (.baload) 1 18 := ⟨by decide +kernel, rfl⟩
theorem d_X9_restore_18 : q_dec prog_1_method_25_code 18 (.ifCond .ne 6) 3 21 := ⟨by decide +kernel, rfl⟩
theorem d_X9_restore_21 : q_dec prog_1_method_25_code 21 (.bipush (-3)) 2 23 := ⟨by decide +kernel, rfl⟩
theorem d_X9_restore_23 : q_dec prog_1_method_25_code 23 (.ireturn) 1 24 := ⟨by decide +kernel, rfl⟩
theorem d_X9_restore_24 : q_dec prog_1_method_25_code 24 (.aload_n 0) 1 25 := ⟨by decide +kernel, rfl⟩
theorem d_X9_restore_25 : q_dec prog_1_method_25_code 25 (.getfield 19) 3 28 := ⟨by decide +kernel, rfl⟩
theorem d_X9_restore_28 : q_dec prog_1_method_25_code 28 (.aload_n 0) 1 29 := ⟨by decide +kernel, rfl⟩
theorem d_X9_restore_29 : q_dec prog_1_method_25_code 29 (.getfield 30) 3 32 := ⟨by decide +kernel, rfl⟩
theorem d_X9_restore_32 : q_dec prog_1_method_25_code 32 (.iload_n 1) 1 33 := ⟨by decide +kernel, rfl⟩
theorem d_X9_restore_33 : q_dec prog_1_method_25_code 33 (.aaload) 1 34 := ⟨by decide +kernel, rfl⟩
theorem d_X9_restore_34 : q_dec prog_1_method_25_code 34 (.invokevirtual 139) 3 37 := ⟨by decide +kernel, rfl⟩
theorem d_X9_restore_37 : q_dec prog_1_method_25_code 37 (.iconst 1) 1 38 := ⟨by decide +kernel, rfl⟩
theorem d_X9_restore_38 : q_dec prog_1_method_25_code 38 (.ireturn) 1 39 := ⟨by decide +kernel, rfl⟩
theorem m_X9_restore : q_wV y_X9_restore prog_1_method_25_code 2 (some .int) 1 := ⟨q_mem 670 (by decide +kernel) (by decide +kernel), q_mem 668 (by decide +kernel) (by decide +kernel), q_mem 669 (by decide +kernel) (by decide +kernel), q_mem 1 (by decide +kernel) (by decide +kernel), by decide +kernel⟩
theorem d_X9_toldOfWalker_0 : q_dec prog_1_method_29_code 0 (.iload_n 2) 1 1 := ⟨by decide +kernel, rfl⟩
theorem d_X9_toldOfWalker_1 : q_dec prog_1_method_29_code 1 (.tableswitch 112 0 9 #[55, 62, 67, 76, 112, 112, 112, 112, 112, 89]) 55 56 := ⟨by decide +kernel, rfl⟩
theorem d_X9_toldOfWalker_56 : q_dec prog_1_method_29_code 56 (.aload_n 1) 1 57 := ⟨by decide +kernel, rfl⟩
theorem d_X9_toldOfWalker_57 : q_dec prog_1_method_29_code 57 (.getfield 146) 3 60 := ⟨by decide +kernel, rfl⟩
theorem d_X9_toldOfWalker_60 : q_dec prog_1_method_29_code 60 (.iconst 0) 1 61 := ⟨by decide +kernel, rfl⟩
theorem d_X9_toldOfWalker_61 : q_dec prog_1_method_29_code 61 (.iaload) 1 62 := ⟨by decide +kernel, rfl⟩
theorem d_X9_toldOfWalker_62 : q_dec prog_1_method_29_code 62 (.ireturn) 1 63 := ⟨by decide +kernel, rfl⟩
theorem d_X9_toldOfWalker_63 : q_dec prog_1_method_29_code 63 (.aload_n 1) 1 64 := ⟨by decide +kernel, rfl⟩
theorem d_X9_toldOfWalker_64 : q_dec prog_1_method_29_code 64 (.getfield 273) 3 67 := ⟨by decide +kernel, rfl⟩
theorem d_X9_toldOfWalker_67 : q_dec prog_1_method_29_code 67 (.ireturn) 1 68 := ⟨by decide +kernel, rfl⟩
theorem d_X9_toldOfWalker_68 : q_dec prog_1_method_29_code 68 (.aload_n 0) 1 69 := ⟨by decide +kernel, rfl⟩
theorem d_X9_toldOfWalker_69 : q_dec prog_1_method_29_code 69 (.getfield 19) 3 72 := ⟨by decide +kernel, rfl⟩
theorem d_X9_toldOfWalker_72 : q_dec prog_1_method_29_code 72 (.aload_n 1) 1 73 := ⟨by decide +kernel, rfl⟩
theorem d_X9_toldOfWalker_73 : q_dec prog_1_method_29_code 73 (.invokevirtual 150) 3 76 := ⟨by decide +kernel, rfl⟩
theorem d_X9_toldOfWalker_76 : q_dec prog_1_method_29_code 76 (.ireturn) 1 77 := ⟨by decide +kernel, rfl⟩
theorem d_X9_toldOfWalker_77 : q_dec prog_1_method_29_code 77 (.aload_n 1) 1 78 := ⟨by decide +kernel, rfl⟩
theorem d_X9_toldOfWalker_78 : q_dec prog_1_method_29_code 78 (.getfield 154) 3 81 := ⟨by decide +kernel, rfl⟩
theorem d_X9_toldOfWalker_81 : q_dec prog_1_method_29_code 81 (.ifCond .eq 7) 3 84 := ⟨by decide +kernel, rfl⟩
theorem d_X9_toldOfWalker_84 : q_dec prog_1_method_29_code 84 (.iconst 1) 1 85 := ⟨by decide +kernel, rfl⟩
theorem d_X9_toldOfWalker_85 : q_dec prog_1_method_29_code 85 (.goto 4) 3 88 := ⟨by decide +kernel, rfl⟩
theorem d_X9_toldOfWalker_88 : q_dec prog_1_method_29_code 88 (.iconst 0) 1 89 := ⟨by decide +kernel, rfl⟩
theorem d_X9_toldOfWalker_89 : q_dec prog_1_method_29_code 89 (.ireturn) 1 90 := ⟨by decide +kernel, rfl⟩
theorem d_X9_toldOfWalker_90 : q_dec prog_1_method_29_code 90 (.aload_n 1) 1 91 := ⟨by decide +kernel, rfl⟩
theorem d_X9_toldOfWalker_91 : q_dec prog_1_method_29_code 91 (.getfield 154) 3 94 := ⟨by decide +kernel, rfl⟩
theorem d_X9_toldOfWalker_94 : q_dec prog_1_method_29_code 94 (.ifCond .ne 6) 3 97 := ⟨by decide +kernel, rfl⟩
theorem d_X9_toldOfWalker_97 : q_dec prog_1_method_29_code 97 (.bipush (-6)) 2 99 := ⟨by decide +kernel, rfl⟩
theorem d_X9_toldOfWalker_99 : q_dec prog_1_method_29_code 99 (.ireturn) 1 100 := ⟨by decide +kernel, rfl⟩
theorem d_X9_toldOfWalker_100 : q_dec prog_1_method_29_code 100 (.aload_n 1) 1 101 := ⟨by decide +kernel, rfl⟩
theorem d_X9_toldOfWalker_101 : q_dec prog_1_method_29_code 101 (.getfield 276) 3 104 := ⟨by decide +kernel, rfl⟩
theorem d_X9_toldOfWalker_104 : q_dec prog_1_method_29_code 104 (.ifCond .eq 7) 3 107 := ⟨by decide +kernel, rfl⟩
theorem d_X9_toldOfWalker_107 : q_dec prog_1_method_29_code 107 (.iconst 1) 1 108 := ⟨by decide +kernel, rfl⟩
theorem d_X9_toldOfWalker_108 : q_dec prog_1_method_29_code 108 (.goto 4) 3 111 := ⟨by decide +kernel, rfl⟩
theorem d_X9_toldOfWalker_111 : q_dec prog_1_method_29_code 111 (.iconst 0) 1 112 := ⟨by decide +kernel, rfl⟩
theorem d_X9_toldOfWalker_112 : q_dec prog_1_method_29_code 112 (.ireturn) 1 113 := ⟨by decide +kernel, rfl⟩
theorem d_X9_toldOfWalker_113 : q_dec prog_1_method_29_code 113 (.iload_n 2) 1 114 := ⟨by decide +kernel, rfl⟩
theorem d_X9_toldOfWalker_114 : q_dec prog_1_method_29_code 114 (.iconst 4) 1 115 := ⟨by decide +kernel, rfl⟩
theorem d_X9_toldOfWalker_115 : q_dec prog_1_method_29_code 115 (.bipush 8) 2 117 := ⟨by decide +kernel, rfl⟩
theorem d_X9_toldOfWalker_117 : q_dec prog_1_method_29_code 117 (.invokestatic 74) 3 120 := ⟨by decide +kernel, rfl⟩
theorem d_X9_toldOfWalker_120 : q_dec prog_1_method_29_code 120 (.ifCond .eq 14) 3 123 := ⟨by decide +kernel, rfl⟩
theorem d_X9_toldOfWalker_123 : q_dec prog_1_method_29_code 123 (.aload_n 1) 1 124 := ⟨by decide +kernel, rfl⟩
theorem d_X9_toldOfWalker_124 : q_dec prog_1_method_29_code 124 (.getfield 146) 3 127 := ⟨by decide +kernel, rfl⟩
theorem d_X9_toldOfWalker_127 : q_dec prog_1_method_29_code 127 (.iload_n 2) 1 128 := ⟨by decide +kernel, rfl⟩
theorem d_X9_toldOfWalker_128 : q_dec prog_1_method_29_code 128 (.iconst 3) 1 129 := ⟨by decide +kernel, rfl⟩
theorem d_X9_toldOfWalker_129 : q_dec prog_1_method_29_code 129 (.isub) 1 130 := ⟨by decide +kernel, rfl⟩
theorem d_X9_toldOfWalker_130 : q_dec prog_1_method_29_code 130 (.iaload) 1 131 := ⟨by decide +kernel, rfl⟩
theorem d_X9_toldOfWalker_131 : q_dec prog_1_method_29_code 131 (.goto 5) 3 134 := ⟨by decide +kernel, rfl⟩
theorem d_X9_toldOfWalker_134 : q_dec prog_1_method_29_code 134 (.bipush (-2)) 2 136 := ⟨by decide +kernel, rfl⟩
theorem d_X9_toldOfWalker_136 : q_dec prog_1_method_29_code 136 (.ireturn) 1 137 := ⟨by decide +kernel, rfl⟩
theorem m_X9_toldOfWalker : q_wV y_X9_toldOfWalker prog_1_method_29_code 3 (some .int) 2 := ⟨q_mem 678 (by decide +kernel) (by decide +kernel), q_mem 677 (by decide +kernel) (by decide +kernel), q_memS (n := 9) 14 (by decide +kernel), q_mem 1 (by decide +kernel) (by decide +kernel), by decide +kernel⟩
theorem d_X9_told_0 : q_dec prog_1_method_26_code 0 (.iload_n 1) 1 1 := ⟨by decide +kernel, rfl⟩
theorem d_X9_told_1 : q_dec prog_1_method_26_code 1 (.bipush 10) 2 3 := ⟨by decide +kernel, rfl⟩
theorem d_X9_told_3 : q_dec prog_1_method_26_code 3 (.if_icmp .lt 42) 3 6 := ⟨by decide +kernel, rfl⟩
theorem d_X9_told_6 : q_dec prog_1_method_26_code 6 (.aload_n 0) 1 7 := ⟨by decide +kernel, rfl⟩
theorem d_X9_told_7 : q_dec prog_1_method_26_code 7 (.getfield 19) 3 10 := ⟨by decide +kernel, rfl⟩
theorem d_X9_told_10 : q_dec prog_1_method_26_code 10 (.iload_n 1) 1 11 := ⟨by decide +kernel, rfl⟩
theorem d_X9_told_11 : q_dec prog_1_method_26_code 11 (.bipush 10) 2 13 := ⟨by decide +kernel, rfl⟩
theorem d_X9_told_13 : q_dec prog_1_method_26_code 13 (.idiv) 1 14 := ⟨by decide +kernel, rfl⟩
theorem d_X9_told_14 : q_dec prog_1_method_26_code 14 (.iconst 1) 1 15 := ⟨by decide +kernel, rfl⟩
theorem d_X9_told_15 : q_dec prog_1_method_26_code 15 (.isub) 1 16 := ⟨by decide +kernel, rfl⟩
theorem d_X9_told_16 : q_dec prog_1_method_26_code 16 (.invokevirtual 101) 3 19 := ⟨by decide +kernel, rfl⟩
theorem d_X9_told_19 : q_dec prog_1_method_26_code 19 (.ifCond .eq 26) 3 22 := ⟨by decide +kernel, rfl⟩
theorem d_X9_told_22 : q_dec prog_1_method_26_code 22 (.aload_n 0) 1 23 := ⟨by decide +kernel, rfl⟩
theorem d_X9_told_23 : q_dec prog_1_method_26_code 23 (.aload_n 0) 1 24 := ⟨by decide +kernel, rfl⟩
theorem d_X9_told_24 : q_dec prog_1_method_26_code 24 (.getfield 19) 3 27 := ⟨by decide +kernel, rfl⟩
theorem d_X9_told_27 : q_dec prog_1_method_26_code 27 (.getfield 81) 3 30 := ⟨by decide +kernel, rfl⟩
theorem d_X9_told_30 : q_dec prog_1_method_26_code 30 (.iload_n 1) 1 31 := ⟨by decide +kernel, rfl⟩
theorem d_X9_told_31 : q_dec prog_1_method_26_code 31 (.bipush 10) 2 33 := ⟨by decide +kernel, rfl⟩
theorem d_X9_told_33 : q_dec prog_1_method_26_code 33 (.idiv) 1 34 := ⟨by decide +kernel, rfl⟩
theorem d_X9_told_34 : q_dec prog_1_method_26_code 34 (.iconst 1) 1 35 := ⟨by decide +kernel, rfl⟩
theorem d_X9_told_35 : q_dec prog_1_method_26_code 35 (.isub) 1 36 := ⟨by decide +kernel, rfl⟩
theorem d_X9_told_36 : q_dec prog_1_method_26_code 36 (.aaload) 1 37 := ⟨by decide +kernel, rfl⟩
theorem d_X9_told_37 : q_dec prog_1_method_26_code 37 (.iload_n 1) 1 38 := ⟨by decide +kernel, rfl⟩
theorem d_X9_told_38 : q_dec prog_1_method_26_code 38 (.bipush 10) 2 40 := ⟨by decide +kernel, rfl⟩
theorem d_X9_told_40 : q_dec prog_1_method_26_code 40 (.irem) 1 41 := ⟨by decide +kernel, rfl⟩
theorem d_X9_told_41 : q_dec prog_1_method_26_code 41 (.invokevirtual 269) 3 44 := ⟨by decide +kernel, rfl⟩
theorem d_X9_told_44 : q_dec prog_1_method_26_code 44 (.ireturn) 1 45 := ⟨by decide +kernel, rfl⟩
theorem d_X9_told_45 : q_dec prog_1_method_26_code 45 (.iload_n 1) 1 46 := ⟨by decide +kernel, rfl⟩
theorem d_X9_told_46 : q_dec prog_1_method_26_code 46 (.tableswitch 109 0 6 #[42, 50, 58, 66, 74, 90, 98]) 42 88 := ⟨by decide +kernel, rfl⟩
theorem d_X9_told_88 : q_dec prog_1_method_26_code 88 (.aload_n 0) 1 89 := ⟨by decide +kernel, rfl⟩
theorem d_X9_told_89 : q_dec prog_1_method_26_code 89 (.getfield 10) 3 92 := ⟨by decide +kernel, rfl⟩
theorem d_X9_told_92 : q_dec prog_1_method_26_code 92 (.getfield 111) 3 95 := ⟨by decide +kernel, rfl⟩
theorem d_X9_told_95 : q_dec prog_1_method_26_code 95 (.ireturn) 1 96 := ⟨by decide +kernel, rfl⟩
theorem d_X9_told_96 : q_dec prog_1_method_26_code 96 (.aload_n 0) 1 97 := ⟨by decide +kernel, rfl⟩
theorem d_X9_told_97 : q_dec prog_1_method_26_code 97 (.getfield 19) 3 100 := ⟨by decide +kernel, rfl⟩
theorem d_X9_told_100 : q_dec prog_1_method_26_code 100 (.invokevirtual 91) 3 103 := ⟨by decide +kernel, rfl⟩
theorem d_X9_told_103 : q_dec prog_1_method_26_code 103 (.ireturn) 1 104 := ⟨by decide +kernel, rfl⟩
theorem d_X9_told_104 : q_dec prog_1_method_26_code 104 (.aload_n 0) 1 105 := ⟨by decide +kernel, rfl⟩
theorem d_X9_told_105 : q_dec prog_1_method_26_code 105 (.getfield 19) 3 108 := ⟨by decide +kernel, rfl⟩
theorem d_X9_told_108 : q_dec prog_1_method_26_code 108 (.getfield 70) 3 111 := ⟨by decide +kernel, rfl⟩
theorem d_X9_told_111 : q_dec prog_1_method_26_code 111 (.ireturn) 1 112 := ⟨by decide +kernel, rfl⟩
theorem d_X9_told_112 : q_dec prog_1_method_26_code 112 (.aload_n 0) 1 113 := ⟨by decide +kernel, rfl⟩
theorem d_X9_told_113 : q_dec prog_1_method_26_code 113 (.getfield 19) 3 116 := ⟨by decide +kernel, rfl⟩
theorem d_X9_told_116 : q_dec prog_1_method_26_code 116 (.getfield 78) 3 119 := ⟨by decide +kernel, rfl⟩
theorem d_X9_told_119 : q_dec prog_1_method_26_code 119 (.ireturn) 1 120 := ⟨by decide +kernel, rfl⟩
theorem d_X9_told_120 : q_dec prog_1_method_26_code 120 (.aload_n 0) 1 121 := ⟨by decide +kernel, rfl⟩
theorem d_X9_told_121 : q_dec prog_1_method_26_code 121 (.getfield 19) 3 124 := ⟨by decide +kernel, rfl⟩
theorem d_X9_told_124 : q_dec prog_1_method_26_code 124 (.getfield 157) 3 127 := ⟨by decide +kernel, rfl⟩
theorem d_X9_told_127 : q_dec prog_1_method_26_code 127 (.ifCond .eq 7) 3 130 := ⟨by decide +kernel, rfl⟩
theorem d_X9_told_130 : q_dec prog_1_method_26_code 130 (.iconst 1) 1 131 := ⟨by decide +kernel, rfl⟩
theorem d_X9_told_131 : q_dec prog_1_method_26_code 131 (.goto 4) 3 134 := ⟨by decide +kernel, rfl⟩
theorem d_X9_told_134 : q_dec prog_1_method_26_code 134 (.iconst 0) 1 135 := ⟨by decide +kernel, rfl⟩
theorem d_X9_told_135 : q_dec prog_1_method_26_code 135 (.ireturn) 1 136 := ⟨by decide +kernel, rfl⟩
theorem d_X9_told_136 : q_dec prog_1_method_26_code 136 (.aload_n 0) 1 137 := ⟨by decide +kernel, rfl⟩
theorem d_X9_told_137 : q_dec prog_1_method_26_code 137 (.getfield 19) 3 140 := ⟨by decide +kernel, rfl⟩
theorem d_X9_told_140 : q_dec prog_1_method_26_code 140 (.getfield 160) 3 143 := ⟨by decide +kernel, rfl⟩
theorem d_X9_told_143 : q_dec prog_1_method_26_code 143 (.ireturn) 1 144 := ⟨by decide +kernel, rfl⟩
theorem d_X9_told_144 : q_dec prog_1_method_26_code 144 (.aload_n 0) 1 145 := ⟨by decide +kernel, rfl⟩
theorem d_X9_told_145 : q_dec prog_1_method_26_code 145 (.getfield 19) 3 148 := ⟨by decide +kernel, rfl⟩
theorem d_X9_told_148 : q_dec prog_1_method_26_code 148 (.getfield 206) 3 151 := ⟨by decide +kernel, rfl⟩
theorem d_X9_told_151 : q_dec prog_1_method_26_code 151 (.getfield 213) 3 154 := ⟨by decide +kernel, rfl⟩
theorem d_X9_told_154 : q_dec prog_1_method_26_code 154 (.ireturn) 1 155 := ⟨by decide +kernel, rfl⟩
theorem d_X9_told_155 : q_dec prog_1_method_26_code 155 (.bipush (-2)) 2 157 := ⟨by decide +kernel, rfl⟩
theorem d_X9_told_157 : q_dec prog_1_method_26_code 157 (.ireturn) 1 158 := ⟨by decide +kernel, rfl⟩
theorem m_X9_told : q_wV y_X9_told prog_1_method_26_code 2 (some .int) 1 := ⟨q_mem 674 (by decide +kernel) (by decide +kernel), q_mem 672 (by decide +kernel) (by decide +kernel), q_mem 673 (by decide +kernel) (by decide +kernel), q_mem 1 (by decide +kernel) (by decide +kernel), by decide +kernel⟩
theorem w_WaterOthers_19 : Cond.fieldLink "WaterOthers" 19 "WaterOthers" "now" "LWaterOthers$Reach;" ∈ q_tbl := q_mem 255 (by decide +kernel) (by decide +kernel)
theorem w_WaterOthers_66 : Cond.methodLink "WaterOthers" 66 y_X9_isCell ∈ q_tbl := q_mem 286 (by decide +kernel) (by decide +kernel)
theorem w_WaterOthers_70 : Cond.fieldLinkNest "WaterOthers" 70 "WaterOthers$Reach" "arches" "I" "WaterOthers" ∈ q_nst := q_memN 109 (by decide +kernel) (by decide +kernel)
def f_X9_arch (a0 : Int32) (a1 : Int32) (σ : q_S) : (Int32 × q_S) :=
  if (f_X9_isCell a0) = 0 then (((-1), σ))
  else (if a1 = 0 then ((((q_w σ 0 0 ((σ.1 0 0) &&& ((1 <<< (a0 &&& 31)) ^^^ (-1)))).1 0 0), (q_w σ 0 0 ((σ.1 0 0) &&& ((1 <<< (a0 &&& 31)) ^^^ (-1))))))
    else ((((q_w σ 0 0 ((σ.1 0 0) ||| (1 <<< (a0 &&& 31)))).1 0 0), (q_w σ 0 0 ((σ.1 0 0) ||| (1 <<< (a0 &&& 31)))))))
set_option maxRecDepth 20000 in
theorem t_X9_arch {Z : q_Z} {l : Launch} (a0 : Int32) (a1 : Int32)  (σ : q_S) {r : Int32} {σ' : q_S} (h : f_X9_arch a0 a1 σ = (r, σ')) : q_M Z l y_X9_arch prog_1_method_2_code 3 (some .int) 3 [.ref (Z.1 68), .int a0, .int a1] σ (some (.int r)) σ' := by
  refine q_met (by decide +kernel) (Nat.le_of_ble_eq_true rfl) (fun Γ hΓ B En => ?_)
  unfold f_X9_arch at h
  refine g_cut (lv' := [(0, .ref (Z.1 68)), (1, .int a0), (2, .int a1)]) rfl ?_
  refine g_iload_n B d_X9_arch_0 rfl rfl ?_
  refine g_callS (As := [.int a0]) (rest := []) B d_X9_arch_1 (t_X9_isCell a0 σ rfl) m_X9_isCell w_WaterOthers_66 rfl rfl (Nat.le_of_ble_eq_true rfl) (by omega) (by decide) ?_
  refine g_if_ne (tgt := 9) B d_X9_arch_4 (by decide) h (fun h => ?_) (fun h => ?_)
  · refine g_aload_n B d_X9_arch_9 rfl rfl ?_
    refine g_get (ci := 9) (k := 1) (v := .ref (Z.1 0)) B d_X9_arch_10 q_in9 rfl (by decide) rfl (by decide) w_WaterOthers_19 rfl rfl ?_
    refine g_iload_n B d_X9_arch_13 rfl rfl ?_
    refine g_if_eq (tgt := 31) B d_X9_arch_14 (by decide) h (fun h => ?_) (fun h => ?_)
    · refine g_aload_n B d_X9_arch_31 rfl rfl ?_
      refine g_get (ci := 9) (k := 1) (v := .ref (Z.1 0)) B d_X9_arch_32 q_in9 rfl (by decide) rfl (by decide) w_WaterOthers_19 rfl rfl ?_
      refine g_getN (ci := 3) (k := 0) B d_X9_arch_35 q_in3 rfl (q_Rlt q_r0) ((q_cR q_r0) _ _) (by decide) w_WaterOthers_70 rfl rfl ?_
      refine g_iconst (v := 1) B d_X9_arch_38 (by decide) ?_
      refine g_iload_n B d_X9_arch_39 rfl rfl ?_
      refine g_ishl B d_X9_arch_40 ?_
      refine g_iconst (v := (-1)) B d_X9_arch_41 (by decide) ?_
      refine g_ixor B d_X9_arch_42 ?_
      refine g_iand B d_X9_arch_43 ?_
      refine g_putN (ci := 3) (k := 0) (v := ((σ.1 0 0) &&& ((1 <<< (a0 &&& 31)) ^^^ (-1)))) (ty := .int) B d_X9_arch_44 q_in3 rfl q_yk3 q_nm3 (q_Rlt q_r0) (q_cR q_r0) (by decide) w_WaterOthers_70 rfl rfl rfl rfl rfl (Nat.le_of_ble_eq_true rfl) (fun _ _ => rfl) ?_
      refine g_aload_n B d_X9_arch_47 rfl rfl ?_
      refine g_get (ci := 9) (k := 1) (v := .ref (Z.1 0)) B d_X9_arch_48 q_in9 rfl (by decide) rfl (by decide) w_WaterOthers_19 rfl rfl ?_
      refine g_getN (ci := 3) (k := 0) B d_X9_arch_51 q_in3 rfl (q_Rlt q_r0) ((q_cR q_r0) _ _) (by decide) w_WaterOthers_70 rfl rfl ?_
      obtain ⟨rfl, rfl⟩ := q_pr h
      exact g_iret B En d_X9_arch_54
    · refine g_aload_n B d_X9_arch_17 rfl rfl ?_
      refine g_get (ci := 9) (k := 1) (v := .ref (Z.1 0)) B d_X9_arch_18 q_in9 rfl (by decide) rfl (by decide) w_WaterOthers_19 rfl rfl ?_
      refine g_getN (ci := 3) (k := 0) B d_X9_arch_21 q_in3 rfl (q_Rlt q_r0) ((q_cR q_r0) _ _) (by decide) w_WaterOthers_70 rfl rfl ?_
      refine g_iconst (v := 1) B d_X9_arch_24 (by decide) ?_
      refine g_iload_n B d_X9_arch_25 rfl rfl ?_
      refine g_ishl B d_X9_arch_26 ?_
      refine g_ior B d_X9_arch_27 ?_
      refine g_goto (tgt := 44) B d_X9_arch_28 (by decide) ?_
      refine g_putN (ci := 3) (k := 0) (v := ((σ.1 0 0) ||| (1 <<< (a0 &&& 31)))) (ty := .int) B d_X9_arch_44 q_in3 rfl q_yk3 q_nm3 (q_Rlt q_r0) (q_cR q_r0) (by decide) w_WaterOthers_70 rfl rfl rfl rfl rfl (Nat.le_of_ble_eq_true rfl) (fun _ _ => rfl) ?_
      refine g_aload_n B d_X9_arch_47 rfl rfl ?_
      refine g_get (ci := 9) (k := 1) (v := .ref (Z.1 0)) B d_X9_arch_48 q_in9 rfl (by decide) rfl (by decide) w_WaterOthers_19 rfl rfl ?_
      refine g_getN (ci := 3) (k := 0) B d_X9_arch_51 q_in3 rfl (q_Rlt q_r0) ((q_cR q_r0) _ _) (by decide) w_WaterOthers_70 rfl rfl ?_
      obtain ⟨rfl, rfl⟩ := q_pr h
      exact g_iret B En d_X9_arch_54
  · refine g_iconst (v := (-1)) B d_X9_arch_7 (by decide) ?_
    obtain ⟨rfl, rfl⟩ := q_pr h
    exact g_iret B En d_X9_arch_8

theorem w_WaterOthers_78 : Cond.fieldLinkNest "WaterOthers" 78 "WaterOthers$Reach" "gap" "I" "WaterOthers" ∈ q_nst := q_memN 111 (by decide +kernel) (by decide +kernel)
def f_X9_gap (a0 : Int32) (σ : q_S) : (Int32 × q_S) :=
  if (f_X9_isWithin a0 0 19) = 0 then (((-2), σ))
  else (((σ.1 0 1), (q_w σ 0 1 a0)))
set_option maxRecDepth 20000 in
theorem t_X9_gap {Z : q_Z} {l : Launch} (a0 : Int32)  (σ : q_S) {r : Int32} {σ' : q_S} (h : f_X9_gap a0 σ = (r, σ')) : q_M Z l y_X9_gap prog_1_method_3_code 3 (some .int) 2 [.ref (Z.1 68), .int a0] σ (some (.int r)) σ' := by
  refine q_met (by decide +kernel) (Nat.le_of_ble_eq_true rfl) (fun Γ hΓ B En => ?_)
  unfold f_X9_gap at h
  refine g_cut (lv' := [(0, .ref (Z.1 68)), (1, .int a0)]) rfl ?_
  refine g_iload_n B d_X9_gap_0 rfl rfl ?_
  refine g_iconst (v := 0) B d_X9_gap_1 (by decide) ?_
  refine g_bipush (v := 19) B d_X9_gap_2 (by decide) ?_
  refine g_callS (As := [.int a0, .int 0, .int 19]) (rest := []) B d_X9_gap_4 (t_X9_isWithin a0 0 19 σ rfl) m_X9_isWithin w_WaterOthers_74 rfl rfl (Nat.le_of_ble_eq_true rfl) (by omega) (by decide) ?_
  refine g_if_ne (tgt := 13) B d_X9_gap_7 (by decide) h (fun h => ?_) (fun h => ?_)
  · refine g_aload_n B d_X9_gap_13 rfl rfl ?_
    refine g_get (ci := 9) (k := 1) (v := .ref (Z.1 0)) B d_X9_gap_14 q_in9 rfl (by decide) rfl (by decide) w_WaterOthers_19 rfl rfl ?_
    refine g_getN (ci := 3) (k := 1) B d_X9_gap_17 q_in3 rfl (q_Rlt q_r0) ((q_cR q_r0) _ _) (by decide) w_WaterOthers_78 rfl rfl ?_
    refine g_istore_n B d_X9_gap_20 rfl (by decide) ?_
    refine g_aload_n B d_X9_gap_21 rfl rfl ?_
    refine g_get (ci := 9) (k := 1) (v := .ref (Z.1 0)) B d_X9_gap_22 q_in9 rfl (by decide) rfl (by decide) w_WaterOthers_19 rfl rfl ?_
    refine g_iload_n B d_X9_gap_25 rfl rfl ?_
    refine g_putN (ci := 3) (k := 1) (v := a0) (ty := .int) B d_X9_gap_26 q_in3 rfl q_yk3 q_nm3 (q_Rlt q_r0) (q_cR q_r0) (by decide) w_WaterOthers_78 rfl rfl rfl rfl rfl (Nat.le_of_ble_eq_true rfl) (fun _ _ => rfl) ?_
    refine g_iload_n B d_X9_gap_29 rfl rfl ?_
    obtain ⟨rfl, rfl⟩ := q_pr h
    exact g_iret B En d_X9_gap_30
  · refine g_bipush (v := (-2)) B d_X9_gap_10 (by decide) ?_
    obtain ⟨rfl, rfl⟩ := q_pr h
    exact g_iret B En d_X9_gap_12

theorem w_WaterOthers_81 : Cond.fieldLinkNest "WaterOthers" 81 "WaterOthers$Reach" "walkers" "[LWaterOthers$Walker;" "WaterOthers" ∈ q_nst := q_memN 118 (by decide +kernel) (by decide +kernel)
theorem w_WaterOthers_85 : Cond.methodLink "WaterOthers" 85 y_X8_arrive ∈ q_tbl := q_mem 300 (by decide +kernel) (by decide +kernel)
theorem w_WaterOthers_91 : Cond.methodLink "WaterOthers" 91 y_X3_thereBits ∈ q_tbl := q_mem 311 (by decide +kernel) (by decide +kernel)
theorem w_WaterOthers_95 : Cond.methodLink "WaterOthers" 95 y_J6_bitCount_0f7a4 ∈ q_tbl := q_mem 315 (by decide +kernel) (by decide +kernel)
def f_X9_walker (N : Nat) (a0 : Int32) (a1 : Int32) (a2 : Int32) (σ : q_S) : Option (Int32 × q_S) :=
  if (f_X9_isWithin a0 0 5) = 0 then (some ((-1), σ))
  else (if (f_X9_isCell a1) = 0 then (some ((-1), σ))
    else (if (f_X9_isWithin a2 0 5) = 0 then (some ((-2), σ))
      else (if ¬ ((a0 : Int32) < 0 ∨ 6 ≤ (a0 : Int32).toNatClampNeg) then (f_X8_arrive N (0 + 2 + (a0 : Int32).toNatClampNeg) a1 a2 σ).bind fun z41 =>
        (f_X3_thereBits N 0 z41).bind fun z48 =>
        some ((f_J6_bitCount_0f7a4 z48), z41) else none)))
set_option maxRecDepth 20000 in
theorem t_X9_walker {Z : q_Z} {l : Launch} (N : Nat) (a0 : Int32) (a1 : Int32) (a2 : Int32)  (σ : q_S) {r : Int32} {σ' : q_S} (h : f_X9_walker N a0 a1 a2 σ = some (r, σ')) : q_M Z l y_X9_walker prog_1_method_4_code 4 (some .int) 4 [.ref (Z.1 68), .int a0, .int a1, .int a2] σ (some (.int r)) σ' := by
  refine q_met (by decide +kernel) (Nat.le_of_ble_eq_true rfl) (fun Γ hΓ B En => ?_)
  unfold f_X9_walker at h
  refine g_cut (lv' := [(0, .ref (Z.1 68)), (1, .int a0), (2, .int a1), (3, .int a2)]) rfl ?_
  refine g_iload_n B d_X9_walker_0 rfl rfl ?_
  refine g_iconst (v := 0) B d_X9_walker_1 (by decide) ?_
  refine g_iconst (v := 5) B d_X9_walker_2 (by decide) ?_
  refine g_callS (As := [.int a0, .int 0, .int 5]) (rest := []) B d_X9_walker_3 (t_X9_isWithin a0 0 5 σ rfl) m_X9_isWithin w_WaterOthers_74 rfl rfl (Nat.le_of_ble_eq_true rfl) (by omega) (by decide) ?_
  refine g_if_eq (tgt := 16) B d_X9_walker_6 (by decide) h (fun h => ?_) (fun h => ?_)
  · refine g_iconst (v := (-1)) B d_X9_walker_16 (by decide) ?_
    obtain ⟨rfl, rfl⟩ := q_ps h
    exact g_iret B En d_X9_walker_17
  · refine g_iload_n B d_X9_walker_9 rfl rfl ?_
    refine g_callS (As := [.int a1]) (rest := []) B d_X9_walker_10 (t_X9_isCell a1 σ rfl) m_X9_isCell w_WaterOthers_66 rfl rfl (Nat.le_of_ble_eq_true rfl) (by omega) (by decide) ?_
    refine g_if_ne (tgt := 18) B d_X9_walker_13 (by decide) h (fun h => ?_) (fun h => ?_)
    · refine g_iload_n B d_X9_walker_18 rfl rfl ?_
      refine g_iconst (v := 0) B d_X9_walker_19 (by decide) ?_
      refine g_iconst (v := 5) B d_X9_walker_20 (by decide) ?_
      refine g_callS (As := [.int a2, .int 0, .int 5]) (rest := []) B d_X9_walker_21 (t_X9_isWithin a2 0 5 σ rfl) m_X9_isWithin w_WaterOthers_74 rfl rfl (Nat.le_of_ble_eq_true rfl) (by omega) (by decide) ?_
      refine g_if_ne (tgt := 30) B d_X9_walker_24 (by decide) h (fun h => ?_) (fun h => ?_)
      · refine g_aload_n B d_X9_walker_30 rfl rfl ?_
        refine g_get (ci := 9) (k := 1) (v := .ref (Z.1 0)) B d_X9_walker_31 q_in9 rfl (by decide) rfl (by decide) w_WaterOthers_19 rfl rfl ?_
        refine g_getN (ci := 3) (k := 4) (v := .ref (Z.1 1)) B d_X9_walker_34 q_in3 rfl (q_Rlt q_r0) ((q_cR q_r0) _ _) (by decide) w_WaterOthers_81 rfl rfl ?_
        refine g_iload_n B d_X9_walker_37 rfl rfl ?_
        obtain ⟨h38, h⟩ := q_chk h
        refine g_aald (t := 4) (f := (fun j => 0 + 2 + j)) B d_X9_walker_38 (q_RAlt q_r0) (q_cRA q_r0) rfl h38 ?_
        refine g_iload_n B d_X9_walker_39 rfl rfl ?_
        refine g_iload_n B d_X9_walker_40 rfl rfl ?_
        obtain ⟨z41, g41, h⟩ := q_bind h
        refine g_callV (p0 := (0 + 2 + (a0 : Int32).toNatClampNeg)) (ci := 8) (As := [.int a1, .int a2]) (rest := []) B d_X9_walker_41 (t_X8_arrive N (0 + 2 + (a0 : Int32).toNatClampNeg) a1 a2 (q_RW q_r0 h38) σ g41) m_X8_arrive w_WaterOthers_85 (q_Wlt (q_RW q_r0 h38)) ((q_cW (q_RW q_r0 h38)) _ _) rfl rfl rfl (Nat.le_of_ble_eq_true rfl) (by omega) (by decide) ?_
        refine g_aload_n B d_X9_walker_44 rfl rfl ?_
        refine g_get (ci := 9) (k := 1) (v := .ref (Z.1 0)) B d_X9_walker_45 q_in9 rfl (by decide) rfl (by decide) w_WaterOthers_19 rfl rfl ?_
        obtain ⟨z48, g48, h⟩ := q_bind h
        refine g_callV (p0 := 0) (ci := 3) (As := []) (rest := []) B d_X9_walker_48 (t_X3_thereBits N 0 q_r0 z41 g48) m_X3_thereBits w_WaterOthers_91 (q_Rlt q_r0) ((q_cR q_r0) _ _) rfl rfl rfl (Nat.le_of_ble_eq_true rfl) (by omega) (by decide) ?_
        refine g_callS (As := [.int z48]) (rest := []) B d_X9_walker_51 (t_J6_bitCount_0f7a4 z48 z41 rfl) m_J6_bitCount_0f7a4 w_WaterOthers_95 rfl rfl (Nat.le_of_ble_eq_true rfl) (by omega) (by decide) ?_
        obtain ⟨rfl, rfl⟩ := q_ps h
        exact g_iret B En d_X9_walker_54
      · refine g_bipush (v := (-2)) B d_X9_walker_27 (by decide) ?_
        obtain ⟨rfl, rfl⟩ := q_ps h
        exact g_iret B En d_X9_walker_29
    · refine g_iconst (v := (-1)) B d_X9_walker_16 (by decide) ?_
      obtain ⟨rfl, rfl⟩ := q_ps h
      exact g_iret B En d_X9_walker_17

theorem w_WaterOthers_101 : Cond.methodLink "WaterOthers" 101 y_X3_has ∈ q_tbl := q_mem 325 (by decide +kernel) (by decide +kernel)
theorem w_WaterOthers_104 : Cond.fieldLinkNest "WaterOthers" 104 "WaterOthers$Walker" "there" "Z" "WaterOthers" ∈ q_nst := q_memN 77 (by decide +kernel) (by decide +kernel)
def f_X9_leave (N : Nat) (a0 : Int32) (σ : q_S) : Option (Int32 × q_S) :=
  (f_X3_has 0 a0 σ).bind fun z5 =>
  if z5 = 0 then (some ((-1), σ))
  else (if ¬ ((a0 : Int32) < 0 ∨ 6 ≤ (a0 : Int32).toNatClampNeg) then (f_X3_thereBits N 0 (q_w σ (0 + 2 + (a0 : Int32).toNatClampNeg) 0 0)).bind fun z30 =>
    some ((f_J6_bitCount_0f7a4 z30), (q_w σ (0 + 2 + (a0 : Int32).toNatClampNeg) 0 0)) else none)
set_option maxRecDepth 20000 in
theorem t_X9_leave {Z : q_Z} {l : Launch} (N : Nat) (a0 : Int32)  (σ : q_S) {r : Int32} {σ' : q_S} (h : f_X9_leave N a0 σ = some (r, σ')) : q_M Z l y_X9_leave prog_1_method_5_code 2 (some .int) 3 [.ref (Z.1 68), .int a0] σ (some (.int r)) σ' := by
  refine q_met (by decide +kernel) (Nat.le_of_ble_eq_true rfl) (fun Γ hΓ B En => ?_)
  unfold f_X9_leave at h
  refine g_cut (lv' := [(0, .ref (Z.1 68)), (1, .int a0)]) rfl ?_
  refine g_aload_n B d_X9_leave_0 rfl rfl ?_
  refine g_get (ci := 9) (k := 1) (v := .ref (Z.1 0)) B d_X9_leave_1 q_in9 rfl (by decide) rfl (by decide) w_WaterOthers_19 rfl rfl ?_
  refine g_iload_n B d_X9_leave_4 rfl rfl ?_
  obtain ⟨z5, g5, h⟩ := q_bind h
  refine g_callV (p0 := 0) (ci := 3) (As := [.int a0]) (rest := []) B d_X9_leave_5 (t_X3_has 0 a0 q_r0 σ g5) m_X3_has w_WaterOthers_101 (q_Rlt q_r0) ((q_cR q_r0) _ _) rfl rfl rfl (Nat.le_of_ble_eq_true rfl) (by omega) (by decide) ?_
  refine g_if_ne (tgt := 13) B d_X9_leave_8 (by decide) h (fun h => ?_) (fun h => ?_)
  · refine g_aload_n B d_X9_leave_13 rfl rfl ?_
    refine g_get (ci := 9) (k := 1) (v := .ref (Z.1 0)) B d_X9_leave_14 q_in9 rfl (by decide) rfl (by decide) w_WaterOthers_19 rfl rfl ?_
    refine g_getN (ci := 3) (k := 4) (v := .ref (Z.1 1)) B d_X9_leave_17 q_in3 rfl (q_Rlt q_r0) ((q_cR q_r0) _ _) (by decide) w_WaterOthers_81 rfl rfl ?_
    refine g_iload_n B d_X9_leave_20 rfl rfl ?_
    obtain ⟨h21, h⟩ := q_chk h
    refine g_aald (t := 4) (f := (fun j => 0 + 2 + j)) B d_X9_leave_21 (q_RAlt q_r0) (q_cRA q_r0) rfl h21 ?_
    refine g_iconst (v := 0) B d_X9_leave_22 (by decide) ?_
    refine g_putN (ci := 8) (k := 0) (v := 0) (ty := .boolean) B d_X9_leave_23 q_in8 rfl q_yk8 q_nm8 (q_Wlt (q_RW q_r0 h21)) (q_cW (q_RW q_r0 h21)) (by decide) w_WaterOthers_104 rfl rfl rfl (by decide) (by decide) (Nat.le_of_ble_eq_true rfl) (fun _ _ => rfl) ?_
    refine g_aload_n B d_X9_leave_26 rfl rfl ?_
    refine g_get (ci := 9) (k := 1) (v := .ref (Z.1 0)) B d_X9_leave_27 q_in9 rfl (by decide) rfl (by decide) w_WaterOthers_19 rfl rfl ?_
    obtain ⟨z30, g30, h⟩ := q_bind h
    refine g_callV (p0 := 0) (ci := 3) (As := []) (rest := []) B d_X9_leave_30 (t_X3_thereBits N 0 q_r0 (q_w σ (0 + 2 + (a0 : Int32).toNatClampNeg) 0 0) g30) m_X3_thereBits w_WaterOthers_91 (q_Rlt q_r0) ((q_cR q_r0) _ _) rfl rfl rfl (Nat.le_of_ble_eq_true rfl) (by omega) (by decide) ?_
    refine g_callS (As := [.int z30]) (rest := []) B d_X9_leave_33 (t_J6_bitCount_0f7a4 z30 (q_w σ (0 + 2 + (a0 : Int32).toNatClampNeg) 0 0) rfl) m_J6_bitCount_0f7a4 w_WaterOthers_95 rfl rfl (Nat.le_of_ble_eq_true rfl) (by omega) (by decide) ?_
    obtain ⟨rfl, rfl⟩ := q_ps h
    exact g_iret B En d_X9_leave_36
  · refine g_iconst (v := (-1)) B d_X9_leave_11 (by decide) ?_
    obtain ⟨rfl, rfl⟩ := q_ps h
    exact g_iret B En d_X9_leave_12

theorem w_WaterOthers_10 : Cond.fieldLink "WaterOthers" 10 "WaterOthers" "pad" "LWaterOthers$Pad;" ∈ q_tbl := q_mem 254 (by decide +kernel) (by decide +kernel)
theorem w_WaterOthers_108 : Cond.methodLink "WaterOthers" 108 y_X2_add ∈ q_tbl := q_mem 334 (by decide +kernel) (by decide +kernel)
theorem w_WaterOthers_111 : Cond.fieldLinkNest "WaterOthers" 111 "WaterOthers$Pad" "count" "I" "WaterOthers" ∈ q_nst := q_memN 34 (by decide +kernel) (by decide +kernel)
def f_X9_say (a0 : Int32) (σ : q_S) : Option (Int32 × q_S) :=
  if (f_X9_isWithin a0 33 126) = 0 then (some ((-2), σ))
  else ((f_X2_add a0 σ).bind fun z19 =>
    if z19.1 = 0 then (some ((-4), z19.2))
    else (some ((z19.2.1 69 1), z19.2)))
set_option maxRecDepth 20000 in
theorem t_X9_say {Z : q_Z} {l : Launch} (a0 : Int32)  (σ : q_S) {r : Int32} {σ' : q_S} (h : f_X9_say a0 σ = some (r, σ')) : q_M Z l y_X9_say prog_1_method_6_code 2 (some .int) 2 [.ref (Z.1 68), .int a0] σ (some (.int r)) σ' := by
  refine q_met (by decide +kernel) (Nat.le_of_ble_eq_true rfl) (fun Γ hΓ B En => ?_)
  unfold f_X9_say at h
  refine g_cut (lv' := [(0, .ref (Z.1 68)), (1, .int a0)]) rfl ?_
  refine g_iload_n B d_X9_say_0 rfl rfl ?_
  refine g_bipush (v := 33) B d_X9_say_1 (by decide) ?_
  refine g_bipush (v := 126) B d_X9_say_3 (by decide) ?_
  refine g_callS (As := [.int a0, .int 33, .int 126]) (rest := []) B d_X9_say_5 (t_X9_isWithin a0 33 126 σ rfl) m_X9_isWithin w_WaterOthers_74 rfl rfl (Nat.le_of_ble_eq_true rfl) (by omega) (by decide) ?_
  refine g_if_ne (tgt := 14) B d_X9_say_8 (by decide) h (fun h => ?_) (fun h => ?_)
  · refine g_aload_n B d_X9_say_14 rfl rfl ?_
    refine g_get (ci := 9) (k := 0) (v := .ref (Z.1 69)) B d_X9_say_15 q_in9 rfl (by decide) rfl (by decide) w_WaterOthers_10 rfl rfl ?_
    refine g_iload_n B d_X9_say_18 rfl rfl ?_
    obtain ⟨z19, g19, h⟩ := q_bind h
    refine g_callV (p0 := 69) (ci := 2) (As := [.int a0]) (rest := []) B d_X9_say_19 (t_X2_add a0 σ g19) m_X2_add w_WaterOthers_108 (by decide) rfl rfl rfl rfl (Nat.le_of_ble_eq_true rfl) (by omega) (by decide) ?_
    refine g_if_eq (tgt := 35) B d_X9_say_22 (by decide) h (fun h => ?_) (fun h => ?_)
    · refine g_bipush (v := (-4)) B d_X9_say_35 (by decide) ?_
      obtain ⟨rfl, rfl⟩ := q_ps h
      exact g_iret B En d_X9_say_37
    · refine g_aload_n B d_X9_say_25 rfl rfl ?_
      refine g_get (ci := 9) (k := 0) (v := .ref (Z.1 69)) B d_X9_say_26 q_in9 rfl (by decide) rfl (by decide) w_WaterOthers_10 rfl rfl ?_
      refine g_getN (ci := 2) (k := 1) B d_X9_say_29 q_in2 rfl (by decide) rfl (by decide) w_WaterOthers_111 rfl rfl ?_
      refine g_goto (tgt := 37) B d_X9_say_32 (by decide) ?_
      obtain ⟨rfl, rfl⟩ := q_ps h
      exact g_iret B En d_X9_say_37
  · refine g_bipush (v := (-2)) B d_X9_say_11 (by decide) ?_
    obtain ⟨rfl, rfl⟩ := q_ps h
    exact g_iret B En d_X9_say_13

theorem w_WaterOthers_114 : Cond.methodLink "WaterOthers" 114 y_X2_clear ∈ q_tbl := q_mem 342 (by decide +kernel) (by decide +kernel)
def f_X9_wipe  (σ : q_S) : (Int32 × q_S) :=
  ((f_X2_clear σ).1, (f_X2_clear σ).2)
set_option maxRecDepth 20000 in
theorem t_X9_wipe {Z : q_Z} {l : Launch}   (σ : q_S) {r : Int32} {σ' : q_S} (h : f_X9_wipe σ = (r, σ')) : q_M Z l y_X9_wipe prog_1_method_7_code 1 (some .int) 2 [.ref (Z.1 68)] σ (some (.int r)) σ' := by
  refine q_met (by decide +kernel) (Nat.le_of_ble_eq_true rfl) (fun Γ hΓ B En => ?_)
  unfold f_X9_wipe at h
  refine g_cut (lv' := [(0, .ref (Z.1 68))]) rfl ?_
  refine g_aload_n B d_X9_wipe_0 rfl rfl ?_
  refine g_get (ci := 9) (k := 0) (v := .ref (Z.1 69)) B d_X9_wipe_1 q_in9 rfl (by decide) rfl (by decide) w_WaterOthers_10 rfl rfl ?_
  refine g_callV (p0 := 69) (ci := 2) (As := []) (rest := []) B d_X9_wipe_4 (t_X2_clear σ rfl) m_X2_clear w_WaterOthers_114 (by decide) rfl rfl rfl rfl (Nat.le_of_ble_eq_true rfl) (by omega) (by decide) ?_
  obtain ⟨rfl, rfl⟩ := q_pr h
  exact g_iret B En d_X9_wipe_7

theorem w_WaterOthers_117 : Cond.methodLink "WaterOthers" 117 y_X2_firstFault ∈ q_tbl := q_mem 350 (by decide +kernel) (by decide +kernel)
def f_X9_fault (N : Nat)  (σ : q_S) : Option Int32 :=
  (f_X2_firstFault N σ).bind fun z4 =>
  some z4
set_option maxRecDepth 20000 in
theorem t_X9_fault {Z : q_Z} {l : Launch} (N : Nat)   (σ : q_S) {r : Int32} (h : f_X9_fault N σ = some r) : q_M Z l y_X9_fault prog_1_method_8_code 1 (some .int) 4 [.ref (Z.1 68)] σ (some (.int r)) σ := by
  refine q_met (by decide +kernel) (Nat.le_of_ble_eq_true rfl) (fun Γ hΓ B En => ?_)
  unfold f_X9_fault at h
  refine g_cut (lv' := [(0, .ref (Z.1 68))]) rfl ?_
  refine g_aload_n B d_X9_fault_0 rfl rfl ?_
  refine g_get (ci := 9) (k := 0) (v := .ref (Z.1 69)) B d_X9_fault_1 q_in9 rfl (by decide) rfl (by decide) w_WaterOthers_10 rfl rfl ?_
  obtain ⟨z4, g4, h⟩ := q_bind h
  refine g_callV (p0 := 69) (ci := 2) (As := []) (rest := []) B d_X9_fault_4 (t_X2_firstFault N σ g4) m_X2_firstFault w_WaterOthers_117 (by decide) rfl rfl rfl rfl (Nat.le_of_ble_eq_true rfl) (by omega) (by decide) ?_
  obtain rfl := q_po h
  exact g_iret B En d_X9_fault_7

theorem w_WaterOthers_120 : Cond.methodLink "WaterOthers" 120 y_X6_tell ∈ q_tbl := q_mem 368 (by decide +kernel) (by decide +kernel)
theorem w_WaterOthers_124 : Cond.fieldLinkNest "WaterOthers" 124 "WaterOthers$Telling" "isFaulty" "Z" "WaterOthers" ∈ q_nst := q_memN 145 (by decide +kernel) (by decide +kernel)
theorem w_WaterOthers_127 : Cond.fieldLinkNest "WaterOthers" 127 "WaterOthers$Telling" "barredAct" "I" "WaterOthers" ∈ q_nst := q_memN 151 (by decide +kernel) (by decide +kernel)
theorem w_WaterOthers_130 : Cond.fieldLinkNest "WaterOthers" 130 "WaterOthers$Telling" "barredWhy" "I" "WaterOthers" ∈ q_nst := q_memN 153 (by decide +kernel) (by decide +kernel)
theorem w_WaterOthers_26 : Cond.fieldLink "WaterOthers" 26 "WaterOthers" "telling" "LWaterOthers$Telling;" ∈ q_tbl := q_mem 256 (by decide +kernel) (by decide +kernel)
def f_X9_judge (N : Nat) (a0 : Int32) (σ : q_S) : Option (Int32 × q_S) :=
  if (f_X9_isWithin a0 0 1) = 0 then (some ((-2), σ))
  else ((f_X6_tell N 0 σ).bind fun z24 =>
    if (z24.1 71 1) = 0 then (if a0 = 0 then (some ((z24.1 71 4), z24))
      else (some ((z24.1 71 5), z24)))
    else (some ((-5), z24)))
set_option maxRecDepth 20000 in
theorem t_X9_judge {Z : q_Z} {l : Launch} (N : Nat) (a0 : Int32)  (σ : q_S) {r : Int32} {σ' : q_S} (h : f_X9_judge N a0 σ = some (r, σ')) : q_M Z l y_X9_judge prog_1_method_9_code 2 (some .int) 7 [.ref (Z.1 68), .int a0] σ (some (.int r)) σ' := by
  refine q_met (by decide +kernel) (Nat.le_of_ble_eq_true rfl) (fun Γ hΓ B En => ?_)
  unfold f_X9_judge at h
  refine g_cut (lv' := [(0, .ref (Z.1 68)), (1, .int a0)]) rfl ?_
  refine g_iload_n B d_X9_judge_0 rfl rfl ?_
  refine g_iconst (v := 0) B d_X9_judge_1 (by decide) ?_
  refine g_iconst (v := 1) B d_X9_judge_2 (by decide) ?_
  refine g_callS (As := [.int a0, .int 0, .int 1]) (rest := []) B d_X9_judge_3 (t_X9_isWithin a0 0 1 σ rfl) m_X9_isWithin w_WaterOthers_74 rfl rfl (Nat.le_of_ble_eq_true rfl) (by omega) (by decide) ?_
  refine g_if_ne (tgt := 12) B d_X9_judge_6 (by decide) h (fun h => ?_) (fun h => ?_)
  · refine g_aload_n B d_X9_judge_12 rfl rfl ?_
    refine g_get (ci := 9) (k := 2) (v := .ref (Z.1 71)) B d_X9_judge_13 q_in9 rfl (by decide) rfl (by decide) w_WaterOthers_26 rfl rfl ?_
    refine g_aload_n B d_X9_judge_16 rfl rfl ?_
    refine g_get (ci := 9) (k := 0) (v := .ref (Z.1 69)) B d_X9_judge_17 q_in9 rfl (by decide) rfl (by decide) w_WaterOthers_10 rfl rfl ?_
    refine g_aload_n B d_X9_judge_20 rfl rfl ?_
    refine g_get (ci := 9) (k := 1) (v := .ref (Z.1 0)) B d_X9_judge_21 q_in9 rfl (by decide) rfl (by decide) w_WaterOthers_19 rfl rfl ?_
    obtain ⟨z24, g24, h⟩ := q_bind h
    refine g_callV (p0 := 71) (ci := 6) (As := [.ref (Z.1 69), .ref (Z.1 0)]) (rest := []) B d_X9_judge_24 (t_X6_tell N 0 q_r0 σ g24) m_X6_tell w_WaterOthers_120 (by decide) rfl rfl rfl rfl (Nat.le_of_ble_eq_true rfl) (by omega) (by decide) ?_
    refine g_aload_n B d_X9_judge_27 rfl rfl ?_
    refine g_get (ci := 9) (k := 2) (v := .ref (Z.1 71)) B d_X9_judge_28 q_in9 rfl (by decide) rfl (by decide) w_WaterOthers_26 rfl rfl ?_
    refine g_getN (ci := 6) (k := 1) B d_X9_judge_31 q_in6 rfl (by decide) rfl (by decide) w_WaterOthers_124 rfl rfl ?_
    refine g_if_eq (tgt := 40) B d_X9_judge_34 (by decide) h (fun h => ?_) (fun h => ?_)
    · refine g_iload_n B d_X9_judge_40 rfl rfl ?_
      refine g_if_ne (tgt := 54) B d_X9_judge_41 (by decide) h (fun h => ?_) (fun h => ?_)
      · refine g_aload_n B d_X9_judge_54 rfl rfl ?_
        refine g_get (ci := 9) (k := 2) (v := .ref (Z.1 71)) B d_X9_judge_55 q_in9 rfl (by decide) rfl (by decide) w_WaterOthers_26 rfl rfl ?_
        refine g_getN (ci := 6) (k := 5) B d_X9_judge_58 q_in6 rfl (by decide) rfl (by decide) w_WaterOthers_130 rfl rfl ?_
        obtain ⟨rfl, rfl⟩ := q_ps h
        exact g_iret B En d_X9_judge_61
      · refine g_aload_n B d_X9_judge_44 rfl rfl ?_
        refine g_get (ci := 9) (k := 2) (v := .ref (Z.1 71)) B d_X9_judge_45 q_in9 rfl (by decide) rfl (by decide) w_WaterOthers_26 rfl rfl ?_
        refine g_getN (ci := 6) (k := 4) B d_X9_judge_48 q_in6 rfl (by decide) rfl (by decide) w_WaterOthers_127 rfl rfl ?_
        refine g_goto (tgt := 61) B d_X9_judge_51 (by decide) ?_
        obtain ⟨rfl, rfl⟩ := q_ps h
        exact g_iret B En d_X9_judge_61
    · refine g_bipush (v := (-5)) B d_X9_judge_37 (by decide) ?_
      obtain ⟨rfl, rfl⟩ := q_ps h
      exact g_iret B En d_X9_judge_39
  · refine g_bipush (v := (-2)) B d_X9_judge_9 (by decide) ?_
    obtain ⟨rfl, rfl⟩ := q_ps h
    exact g_iret B En d_X9_judge_11

theorem w_WaterOthers_133 : Cond.fieldLinkNest "WaterOthers" 133 "WaterOthers$Telling" "canBe" "Z" "WaterOthers" ∈ q_nst := q_memN 147 (by decide +kernel) (by decide +kernel)
theorem w_WaterOthers_136 : Cond.fieldLinkNest "WaterOthers" 136 "WaterOthers$Telling" "reach" "LWaterOthers$Reach;" "WaterOthers" ∈ q_nst := q_memN 143 (by decide +kernel) (by decide +kernel)
theorem w_WaterOthers_139 : Cond.methodLink "WaterOthers" 139 y_X3_copy ∈ q_tbl := q_mem 468 (by decide +kernel) (by decide +kernel)
theorem w_WaterOthers_143 : Cond.fieldLinkNest "WaterOthers" 143 "WaterOthers$Telling" "acts" "I" "WaterOthers" ∈ q_nst := q_memN 149 (by decide +kernel) (by decide +kernel)
def f_X9_done (N : Nat)  (σ : q_S) : Option (Int32 × q_S) :=
  (f_X6_tell N 0 σ).bind fun z12 =>
  if (z12.1 71 2) = 0 then (some ((-5), z12))
  else ((f_X3_copy N 0 17 z12).bind fun z39 =>
    some ((((f_X2_clear z39).2).1 71 3), (f_X2_clear z39).2))
set_option maxRecDepth 20000 in
theorem t_X9_done {Z : q_Z} {l : Launch} (N : Nat)   (σ : q_S) {r : Int32} {σ' : q_S} (h : f_X9_done N σ = some (r, σ')) : q_M Z l y_X9_done prog_1_method_10_code 1 (some .int) 7 [.ref (Z.1 68)] σ (some (.int r)) σ' := by
  refine q_met (by decide +kernel) (Nat.le_of_ble_eq_true rfl) (fun Γ hΓ B En => ?_)
  unfold f_X9_done at h
  refine g_cut (lv' := [(0, .ref (Z.1 68))]) rfl ?_
  refine g_aload_n B d_X9_done_0 rfl rfl ?_
  refine g_get (ci := 9) (k := 2) (v := .ref (Z.1 71)) B d_X9_done_1 q_in9 rfl (by decide) rfl (by decide) w_WaterOthers_26 rfl rfl ?_
  refine g_aload_n B d_X9_done_4 rfl rfl ?_
  refine g_get (ci := 9) (k := 0) (v := .ref (Z.1 69)) B d_X9_done_5 q_in9 rfl (by decide) rfl (by decide) w_WaterOthers_10 rfl rfl ?_
  refine g_aload_n B d_X9_done_8 rfl rfl ?_
  refine g_get (ci := 9) (k := 1) (v := .ref (Z.1 0)) B d_X9_done_9 q_in9 rfl (by decide) rfl (by decide) w_WaterOthers_19 rfl rfl ?_
  obtain ⟨z12, g12, h⟩ := q_bind h
  refine g_callV (p0 := 71) (ci := 6) (As := [.ref (Z.1 69), .ref (Z.1 0)]) (rest := []) B d_X9_done_12 (t_X6_tell N 0 q_r0 σ g12) m_X6_tell w_WaterOthers_120 (by decide) rfl rfl rfl rfl (Nat.le_of_ble_eq_true rfl) (by omega) (by decide) ?_
  refine g_aload_n B d_X9_done_15 rfl rfl ?_
  refine g_get (ci := 9) (k := 2) (v := .ref (Z.1 71)) B d_X9_done_16 q_in9 rfl (by decide) rfl (by decide) w_WaterOthers_26 rfl rfl ?_
  refine g_getN (ci := 6) (k := 2) B d_X9_done_19 q_in6 rfl (by decide) rfl (by decide) w_WaterOthers_133 rfl rfl ?_
  refine g_if_ne (tgt := 28) B d_X9_done_22 (by decide) h (fun h => ?_) (fun h => ?_)
  · refine g_aload_n B d_X9_done_28 rfl rfl ?_
    refine g_get (ci := 9) (k := 1) (v := .ref (Z.1 0)) B d_X9_done_29 q_in9 rfl (by decide) rfl (by decide) w_WaterOthers_19 rfl rfl ?_
    refine g_aload_n B d_X9_done_32 rfl rfl ?_
    refine g_get (ci := 9) (k := 2) (v := .ref (Z.1 71)) B d_X9_done_33 q_in9 rfl (by decide) rfl (by decide) w_WaterOthers_26 rfl rfl ?_
    refine g_getN (ci := 6) (k := 0) (v := .ref (Z.1 17)) B d_X9_done_36 q_in6 rfl (by decide) rfl (by decide) w_WaterOthers_136 rfl rfl ?_
    obtain ⟨z39, g39, h⟩ := q_bind h
    refine g_callV (p0 := 0) (ci := 3) (As := [.ref (Z.1 17)]) (rest := []) B d_X9_done_39 (t_X3_copy N 0 17 q_r0 q_r17 z12 g39) m_X3_copy w_WaterOthers_139 (q_Rlt q_r0) ((q_cR q_r0) _ _) rfl rfl rfl (Nat.le_of_ble_eq_true rfl) (by omega) (by decide) ?_
    refine g_aload_n B d_X9_done_42 rfl rfl ?_
    refine g_get (ci := 9) (k := 0) (v := .ref (Z.1 69)) B d_X9_done_43 q_in9 rfl (by decide) rfl (by decide) w_WaterOthers_10 rfl rfl ?_
    refine g_callV (p0 := 69) (ci := 2) (As := []) (rest := []) B d_X9_done_46 (t_X2_clear z39 rfl) m_X2_clear w_WaterOthers_114 (by decide) rfl rfl rfl rfl (Nat.le_of_ble_eq_true rfl) (by omega) (by decide) ?_
    refine g_pop B d_X9_done_49 rfl ?_
    refine g_aload_n B d_X9_done_50 rfl rfl ?_
    refine g_get (ci := 9) (k := 2) (v := .ref (Z.1 71)) B d_X9_done_51 q_in9 rfl (by decide) rfl (by decide) w_WaterOthers_26 rfl rfl ?_
    refine g_getN (ci := 6) (k := 3) B d_X9_done_54 q_in6 rfl (by decide) rfl (by decide) w_WaterOthers_143 rfl rfl ?_
    obtain ⟨rfl, rfl⟩ := q_ps h
    exact g_iret B En d_X9_done_57
  · refine g_bipush (v := (-5)) B d_X9_done_25 (by decide) ?_
    obtain ⟨rfl, rfl⟩ := q_ps h
    exact g_iret B En d_X9_done_27

theorem w_WaterOthers_146 : Cond.fieldLinkNest "WaterOthers" 146 "WaterOthers$Walker" "was" "[I" "WaterOthers" ∈ q_nst := q_memN 94 (by decide +kernel) (by decide +kernel)
theorem w_WaterOthers_150 : Cond.methodLink "WaterOthers" 150 y_X3_otherCell ∈ q_tbl := q_mem 473 (by decide +kernel) (by decide +kernel)
theorem w_WaterOthers_154 : Cond.fieldLinkNest "WaterOthers" 154 "WaterOthers$Walker" "parted" "Z" "WaterOthers" ∈ q_nst := q_memN 85 (by decide +kernel) (by decide +kernel)
def f_X9_behind (N : Nat) (a0 : Int32) (a1 : Int32) (σ : q_S) : Option (Int32 × q_S) :=
  (f_X3_has 0 a0 σ).bind fun z5 =>
  if z5 = 0 then (some ((-1), σ))
  else (if (f_X9_isWithin a1 0 2) = 0 then (some ((-2), σ))
    else ((f_X6_tell N 0 σ).bind fun z37 =>
      if (z37.1 71 2) = 0 then (some ((-5), z37))
      else (if ¬ ((a0 : Int32) < 0 ∨ 6 ≤ (a0 : Int32).toNatClampNeg) then if a1 = 0 then (some ((z37.1 ((17 + 2 + (a0 : Int32).toNatClampNeg) + 6) (0 : Int32).toNatClampNeg), z37))
        else if a1 = 1 then ((f_X3_otherCell 17 (17 + 2 + (a0 : Int32).toNatClampNeg) z37).bind fun z107 =>
            some (z107, z37))
        else (if (z37.1 (17 + 2 + (a0 : Int32).toNatClampNeg) 2) = 0 then (some (0, z37))
            else (some (1, z37))) else none)))
set_option maxRecDepth 20000 in
theorem t_X9_behind {Z : q_Z} {l : Launch} (N : Nat) (a0 : Int32) (a1 : Int32)  (σ : q_S) {r : Int32} {σ' : q_S} (h : f_X9_behind N a0 a1 σ = some (r, σ')) : q_M Z l y_X9_behind prog_1_method_11_code 5 (some .int) 7 [.ref (Z.1 68), .int a0, .int a1] σ (some (.int r)) σ' := by
  refine q_met (by decide +kernel) (Nat.le_of_ble_eq_true rfl) (fun Γ hΓ B En => ?_)
  unfold f_X9_behind at h
  refine g_cut (lv' := [(0, .ref (Z.1 68)), (1, .int a0), (2, .int a1)]) rfl ?_
  refine g_aload_n B d_X9_behind_0 rfl rfl ?_
  refine g_get (ci := 9) (k := 1) (v := .ref (Z.1 0)) B d_X9_behind_1 q_in9 rfl (by decide) rfl (by decide) w_WaterOthers_19 rfl rfl ?_
  refine g_iload_n B d_X9_behind_4 rfl rfl ?_
  obtain ⟨z5, g5, h⟩ := q_bind h
  refine g_callV (p0 := 0) (ci := 3) (As := [.int a0]) (rest := []) B d_X9_behind_5 (t_X3_has 0 a0 q_r0 σ g5) m_X3_has w_WaterOthers_101 (q_Rlt q_r0) ((q_cR q_r0) _ _) rfl rfl rfl (Nat.le_of_ble_eq_true rfl) (by omega) (by decide) ?_
  refine g_if_ne (tgt := 13) B d_X9_behind_8 (by decide) h (fun h => ?_) (fun h => ?_)
  · refine g_iload_n B d_X9_behind_13 rfl rfl ?_
    refine g_iconst (v := 0) B d_X9_behind_14 (by decide) ?_
    refine g_iconst (v := 2) B d_X9_behind_15 (by decide) ?_
    refine g_callS (As := [.int a1, .int 0, .int 2]) (rest := []) B d_X9_behind_16 (t_X9_isWithin a1 0 2 σ rfl) m_X9_isWithin w_WaterOthers_74 rfl rfl (Nat.le_of_ble_eq_true rfl) (by omega) (by decide) ?_
    refine g_if_ne (tgt := 25) B d_X9_behind_19 (by decide) h (fun h => ?_) (fun h => ?_)
    · refine g_aload_n B d_X9_behind_25 rfl rfl ?_
      refine g_get (ci := 9) (k := 2) (v := .ref (Z.1 71)) B d_X9_behind_26 q_in9 rfl (by decide) rfl (by decide) w_WaterOthers_26 rfl rfl ?_
      refine g_aload_n B d_X9_behind_29 rfl rfl ?_
      refine g_get (ci := 9) (k := 0) (v := .ref (Z.1 69)) B d_X9_behind_30 q_in9 rfl (by decide) rfl (by decide) w_WaterOthers_10 rfl rfl ?_
      refine g_aload_n B d_X9_behind_33 rfl rfl ?_
      refine g_get (ci := 9) (k := 1) (v := .ref (Z.1 0)) B d_X9_behind_34 q_in9 rfl (by decide) rfl (by decide) w_WaterOthers_19 rfl rfl ?_
      obtain ⟨z37, g37, h⟩ := q_bind h
      refine g_callV (p0 := 71) (ci := 6) (As := [.ref (Z.1 69), .ref (Z.1 0)]) (rest := []) B d_X9_behind_37 (t_X6_tell N 0 q_r0 σ g37) m_X6_tell w_WaterOthers_120 (by decide) rfl rfl rfl rfl (Nat.le_of_ble_eq_true rfl) (by omega) (by decide) ?_
      refine g_aload_n B d_X9_behind_40 rfl rfl ?_
      refine g_get (ci := 9) (k := 2) (v := .ref (Z.1 71)) B d_X9_behind_41 q_in9 rfl (by decide) rfl (by decide) w_WaterOthers_26 rfl rfl ?_
      refine g_getN (ci := 6) (k := 2) B d_X9_behind_44 q_in6 rfl (by decide) rfl (by decide) w_WaterOthers_133 rfl rfl ?_
      refine g_if_ne (tgt := 53) B d_X9_behind_47 (by decide) h (fun h => ?_) (fun h => ?_)
      · refine g_aload_n B d_X9_behind_53 rfl rfl ?_
        refine g_get (ci := 9) (k := 2) (v := .ref (Z.1 71)) B d_X9_behind_54 q_in9 rfl (by decide) rfl (by decide) w_WaterOthers_26 rfl rfl ?_
        refine g_getN (ci := 6) (k := 0) (v := .ref (Z.1 17)) B d_X9_behind_57 q_in6 rfl (by decide) rfl (by decide) w_WaterOthers_136 rfl rfl ?_
        refine g_astore_n B d_X9_behind_60 rfl (by decide) ?_
        refine g_aload_n B d_X9_behind_61 rfl rfl ?_
        refine g_getN (ci := 3) (k := 4) (v := .ref (Z.1 18)) B d_X9_behind_62 q_in3 rfl (q_Rlt q_r17) ((q_cR q_r17) _ _) (by decide) w_WaterOthers_81 rfl rfl ?_
        refine g_iload_n B d_X9_behind_65 rfl rfl ?_
        obtain ⟨h66, h⟩ := q_chk h
        refine g_aald (t := 4) (f := (fun j => 17 + 2 + j)) B d_X9_behind_66 (q_RAlt q_r17) (q_cRA q_r17) rfl h66 ?_
        refine g_astore B d_X9_behind_67 (by decide) ?_
        refine g_iload_n B d_X9_behind_69 rfl rfl ?_
        refine q_sw h (fun e70_0 h => ?_) (fun e70_0 h => ?_)
        · refine g_lsw (off := 26) (tgt := 96) B d_X9_behind_70 (by decide) (by rw [e70_0]; decide) (by decide) ?_
          refine g_aload B d_X9_behind_96 rfl ?_
          refine g_getN (ci := 8) (k := 5) (v := .ref (Z.1 ((17 + 2 + (a0 : Int32).toNatClampNeg) + 6))) B d_X9_behind_98 q_in8 rfl (q_Wlt (q_RW q_r17 h66)) ((q_cW (q_RW q_r17 h66)) _ _) (by decide) w_WaterOthers_146 rfl rfl ?_
          refine g_iconst (v := 0) B d_X9_behind_101 (by decide) ?_
          refine g_iald B d_X9_behind_102 (q_WAlt (q_RW q_r17 h66)) (q_cWA (q_RW q_r17 h66)) (by decide) ?_
          obtain ⟨rfl, rfl⟩ := q_ps h
          exact g_iret B En d_X9_behind_103
        · skip
          refine q_sw h (fun e70_1 h => ?_) (fun e70_1 h => ?_)
          · refine g_lsw (off := 34) (tgt := 104) B d_X9_behind_70 (by decide) (by rw [e70_1]; decide) (by decide) ?_
            refine g_aload_n B d_X9_behind_104 rfl rfl ?_
            refine g_aload B d_X9_behind_105 rfl ?_
            obtain ⟨z107, g107, h⟩ := q_bind h
            refine g_callV (p0 := 17) (ci := 3) (As := [.ref (Z.1 (17 + 2 + (a0 : Int32).toNatClampNeg))]) (rest := []) B d_X9_behind_107 (t_X3_otherCell 17 (17 + 2 + (a0 : Int32).toNatClampNeg) q_r17 (q_RW q_r17 h66) z37 g107) m_X3_otherCell w_WaterOthers_150 (q_Rlt q_r17) ((q_cR q_r17) _ _) rfl rfl rfl (Nat.le_of_ble_eq_true rfl) (by omega) (by decide) ?_
            obtain ⟨rfl, rfl⟩ := q_ps h
            exact g_iret B En d_X9_behind_110
          · skip
            refine g_lsw (off := 41) (tgt := 111) B d_X9_behind_70 (by decide) (by show Op.lookupswitch.offset [(0, 26), (1, 34)] 41 _ = _; rw [lv_osw e70_0 (by decide), lv_osw e70_1 (by decide)]; rfl) (by decide) ?_
            refine g_aload B d_X9_behind_111 rfl ?_
            refine g_getN (ci := 8) (k := 2) B d_X9_behind_113 q_in8 rfl (q_Wlt (q_RW q_r17 h66)) ((q_cW (q_RW q_r17 h66)) _ _) (by decide) w_WaterOthers_154 rfl rfl ?_
            refine g_if_eq (tgt := 123) B d_X9_behind_116 (by decide) h (fun h => ?_) (fun h => ?_)
            · refine g_iconst (v := 0) B d_X9_behind_123 (by decide) ?_
              obtain ⟨rfl, rfl⟩ := q_ps h
              exact g_iret B En d_X9_behind_124
            · refine g_iconst (v := 1) B d_X9_behind_119 (by decide) ?_
              refine g_goto (tgt := 124) B d_X9_behind_120 (by decide) ?_
              obtain ⟨rfl, rfl⟩ := q_ps h
              exact g_iret B En d_X9_behind_124
      · refine g_bipush (v := (-5)) B d_X9_behind_50 (by decide) ?_
        obtain ⟨rfl, rfl⟩ := q_ps h
        exact g_iret B En d_X9_behind_52
    · refine g_bipush (v := (-2)) B d_X9_behind_22 (by decide) ?_
      obtain ⟨rfl, rfl⟩ := q_ps h
      exact g_iret B En d_X9_behind_24
  · refine g_iconst (v := (-1)) B d_X9_behind_11 (by decide) ?_
    obtain ⟨rfl, rfl⟩ := q_ps h
    exact g_iret B En d_X9_behind_12

theorem w_WaterOthers_157 : Cond.fieldLinkNest "WaterOthers" 157 "WaterOthers$Reach" "wind" "Z" "WaterOthers" ∈ q_nst := q_memN 113 (by decide +kernel) (by decide +kernel)
theorem w_WaterOthers_160 : Cond.fieldLinkNest "WaterOthers" 160 "WaterOthers$Reach" "beat" "I" "WaterOthers" ∈ q_nst := q_memN 115 (by decide +kernel) (by decide +kernel)
theorem w_WaterOthers_163 : Cond.methodLink "WaterOthers" 163 y_X3_partedCount ∈ q_tbl := q_mem 478 (by decide +kernel) (by decide +kernel)
theorem w_WaterOthers_166 : Cond.fieldLinkNest "WaterOthers" 166 "WaterOthers$Telling" "partingAct" "I" "WaterOthers" ∈ q_nst := q_memN 155 (by decide +kernel) (by decide +kernel)
theorem w_WaterOthers_169 : Cond.fieldLinkNest "WaterOthers" 169 "WaterOthers$Telling" "partingWho" "I" "WaterOthers" ∈ q_nst := q_memN 157 (by decide +kernel) (by decide +kernel)
def f_X9_then (N : Nat) (a0 : Int32) (σ : q_S) : Option (Int32 × q_S) :=
  if (f_X9_isWithin a0 0 4) = 0 then (some ((-2), σ))
  else ((f_X6_tell N 0 σ).bind fun z24 =>
    if (z24.1 71 2) = 0 then (some ((-5), z24))
    else (if a0 = 0 then (if (z24.1 17 2) = 0 then (some (0, z24))
        else (some (1, z24)))
      else if a0 = 1 then (some ((z24.1 17 3), z24))
      else if a0 = 2 then ((f_X3_partedCount N 17 z24).bind fun z109 =>
            some (z109, z24))
      else if a0 = 3 then (some ((z24.1 71 6), z24))
      else (some ((z24.1 71 7), z24))))
set_option maxRecDepth 20000 in
theorem t_X9_then {Z : q_Z} {l : Launch} (N : Nat) (a0 : Int32)  (σ : q_S) {r : Int32} {σ' : q_S} (h : f_X9_then N a0 σ = some (r, σ')) : q_M Z l y_X9_then prog_1_method_12_code 2 (some .int) 7 [.ref (Z.1 68), .int a0] σ (some (.int r)) σ' := by
  refine q_met (by decide +kernel) (Nat.le_of_ble_eq_true rfl) (fun Γ hΓ B En => ?_)
  unfold f_X9_then at h
  refine g_cut (lv' := [(0, .ref (Z.1 68)), (1, .int a0)]) rfl ?_
  refine g_iload_n B d_X9_then_0 rfl rfl ?_
  refine g_iconst (v := 0) B d_X9_then_1 (by decide) ?_
  refine g_iconst (v := 4) B d_X9_then_2 (by decide) ?_
  refine g_callS (As := [.int a0, .int 0, .int 4]) (rest := []) B d_X9_then_3 (t_X9_isWithin a0 0 4 σ rfl) m_X9_isWithin w_WaterOthers_74 rfl rfl (Nat.le_of_ble_eq_true rfl) (by omega) (by decide) ?_
  refine g_if_ne (tgt := 12) B d_X9_then_6 (by decide) h (fun h => ?_) (fun h => ?_)
  · refine g_aload_n B d_X9_then_12 rfl rfl ?_
    refine g_get (ci := 9) (k := 2) (v := .ref (Z.1 71)) B d_X9_then_13 q_in9 rfl (by decide) rfl (by decide) w_WaterOthers_26 rfl rfl ?_
    refine g_aload_n B d_X9_then_16 rfl rfl ?_
    refine g_get (ci := 9) (k := 0) (v := .ref (Z.1 69)) B d_X9_then_17 q_in9 rfl (by decide) rfl (by decide) w_WaterOthers_10 rfl rfl ?_
    refine g_aload_n B d_X9_then_20 rfl rfl ?_
    refine g_get (ci := 9) (k := 1) (v := .ref (Z.1 0)) B d_X9_then_21 q_in9 rfl (by decide) rfl (by decide) w_WaterOthers_19 rfl rfl ?_
    obtain ⟨z24, g24, h⟩ := q_bind h
    refine g_callV (p0 := 71) (ci := 6) (As := [.ref (Z.1 69), .ref (Z.1 0)]) (rest := []) B d_X9_then_24 (t_X6_tell N 0 q_r0 σ g24) m_X6_tell w_WaterOthers_120 (by decide) rfl rfl rfl rfl (Nat.le_of_ble_eq_true rfl) (by omega) (by decide) ?_
    refine g_aload_n B d_X9_then_27 rfl rfl ?_
    refine g_get (ci := 9) (k := 2) (v := .ref (Z.1 71)) B d_X9_then_28 q_in9 rfl (by decide) rfl (by decide) w_WaterOthers_26 rfl rfl ?_
    refine g_getN (ci := 6) (k := 2) B d_X9_then_31 q_in6 rfl (by decide) rfl (by decide) w_WaterOthers_133 rfl rfl ?_
    refine g_if_ne (tgt := 40) B d_X9_then_34 (by decide) h (fun h => ?_) (fun h => ?_)
    · refine g_iload_n B d_X9_then_40 rfl rfl ?_
      refine q_sw h (fun e41_0 h => ?_) (fun e41_0 h => ?_)
      · refine g_tswIn (c0 := 0) (tgt := 72) B d_X9_then_41 e41_0 (by decide) (by decide) rfl (by decide) ?_
        refine g_aload_n B d_X9_then_72 rfl rfl ?_
        refine g_get (ci := 9) (k := 2) (v := .ref (Z.1 71)) B d_X9_then_73 q_in9 rfl (by decide) rfl (by decide) w_WaterOthers_26 rfl rfl ?_
        refine g_getN (ci := 6) (k := 0) (v := .ref (Z.1 17)) B d_X9_then_76 q_in6 rfl (by decide) rfl (by decide) w_WaterOthers_136 rfl rfl ?_
        refine g_getN (ci := 3) (k := 2) B d_X9_then_79 q_in3 rfl (q_Rlt q_r17) ((q_cR q_r17) _ _) (by decide) w_WaterOthers_157 rfl rfl ?_
        refine g_if_eq (tgt := 89) B d_X9_then_82 (by decide) h (fun h => ?_) (fun h => ?_)
        · refine g_iconst (v := 0) B d_X9_then_89 (by decide) ?_
          obtain ⟨rfl, rfl⟩ := q_ps h
          exact g_iret B En d_X9_then_90
        · refine g_iconst (v := 1) B d_X9_then_85 (by decide) ?_
          refine g_goto (tgt := 90) B d_X9_then_86 (by decide) ?_
          obtain ⟨rfl, rfl⟩ := q_ps h
          exact g_iret B En d_X9_then_90
      · skip
        refine q_sw h (fun e41_1 h => ?_) (fun e41_1 h => ?_)
        · refine g_tswIn (c0 := 1) (tgt := 91) B d_X9_then_41 e41_1 (by decide) (by decide) rfl (by decide) ?_
          refine g_aload_n B d_X9_then_91 rfl rfl ?_
          refine g_get (ci := 9) (k := 2) (v := .ref (Z.1 71)) B d_X9_then_92 q_in9 rfl (by decide) rfl (by decide) w_WaterOthers_26 rfl rfl ?_
          refine g_getN (ci := 6) (k := 0) (v := .ref (Z.1 17)) B d_X9_then_95 q_in6 rfl (by decide) rfl (by decide) w_WaterOthers_136 rfl rfl ?_
          refine g_getN (ci := 3) (k := 3) B d_X9_then_98 q_in3 rfl (q_Rlt q_r17) ((q_cR q_r17) _ _) (by decide) w_WaterOthers_160 rfl rfl ?_
          obtain ⟨rfl, rfl⟩ := q_ps h
          exact g_iret B En d_X9_then_101
        · skip
          refine q_sw h (fun e41_2 h => ?_) (fun e41_2 h => ?_)
          · refine g_tswIn (c0 := 2) (tgt := 102) B d_X9_then_41 e41_2 (by decide) (by decide) rfl (by decide) ?_
            refine g_aload_n B d_X9_then_102 rfl rfl ?_
            refine g_get (ci := 9) (k := 2) (v := .ref (Z.1 71)) B d_X9_then_103 q_in9 rfl (by decide) rfl (by decide) w_WaterOthers_26 rfl rfl ?_
            refine g_getN (ci := 6) (k := 0) (v := .ref (Z.1 17)) B d_X9_then_106 q_in6 rfl (by decide) rfl (by decide) w_WaterOthers_136 rfl rfl ?_
            obtain ⟨z109, g109, h⟩ := q_bind h
            refine g_callV (p0 := 17) (ci := 3) (As := []) (rest := []) B d_X9_then_109 (t_X3_partedCount N 17 q_r17 z24 g109) m_X3_partedCount w_WaterOthers_163 (q_Rlt q_r17) ((q_cR q_r17) _ _) rfl rfl rfl (Nat.le_of_ble_eq_true rfl) (by omega) (by decide) ?_
            obtain ⟨rfl, rfl⟩ := q_ps h
            exact g_iret B En d_X9_then_112
          · skip
            refine q_sw h (fun e41_3 h => ?_) (fun e41_3 h => ?_)
            · refine g_tswIn (c0 := 3) (tgt := 113) B d_X9_then_41 e41_3 (by decide) (by decide) rfl (by decide) ?_
              refine g_aload_n B d_X9_then_113 rfl rfl ?_
              refine g_get (ci := 9) (k := 2) (v := .ref (Z.1 71)) B d_X9_then_114 q_in9 rfl (by decide) rfl (by decide) w_WaterOthers_26 rfl rfl ?_
              refine g_getN (ci := 6) (k := 6) B d_X9_then_117 q_in6 rfl (by decide) rfl (by decide) w_WaterOthers_166 rfl rfl ?_
              obtain ⟨rfl, rfl⟩ := q_ps h
              exact g_iret B En d_X9_then_120
            · skip
              have ze41_0 := q_ne (n := 0) e41_0 (by decide)
              have ze41_1 := q_ne (n := 1) e41_1 (by decide)
              have ze41_2 := q_ne (n := 2) e41_2 (by decide)
              have ze41_3 := q_ne (n := 3) e41_3 (by decide)
              refine g_tswOut (tgt := 121) B d_X9_then_41 (by change (a0 : Int32).toInt < _ ∨ _ < (a0 : Int32).toInt; omega) (by decide) ?_
              refine g_aload_n B d_X9_then_121 rfl rfl ?_
              refine g_get (ci := 9) (k := 2) (v := .ref (Z.1 71)) B d_X9_then_122 q_in9 rfl (by decide) rfl (by decide) w_WaterOthers_26 rfl rfl ?_
              refine g_getN (ci := 6) (k := 7) B d_X9_then_125 q_in6 rfl (by decide) rfl (by decide) w_WaterOthers_169 rfl rfl ?_
              obtain ⟨rfl, rfl⟩ := q_ps h
              exact g_iret B En d_X9_then_128
    · refine g_bipush (v := (-5)) B d_X9_then_37 (by decide) ?_
      obtain ⟨rfl, rfl⟩ := q_ps h
      exact g_iret B En d_X9_then_39
  · refine g_bipush (v := (-2)) B d_X9_then_9 (by decide) ?_
    obtain ⟨rfl, rfl⟩ := q_ps h
    exact g_iret B En d_X9_then_11

theorem w_WaterOthers_172 : Cond.methodLink "WaterOthers" 172 y_X3_walkersIn ∈ q_tbl := q_mem 486 (by decide +kernel) (by decide +kernel)
theorem w_WaterOthers_175 : Cond.methodLink "WaterOthers" 175 y_X3_othersIn ∈ q_tbl := q_mem 487 (by decide +kernel) (by decide +kernel)
def f_X9_standing (N : Nat) (a0 : Int32) (a1 : Int32) (σ : q_S) : Option Int32 :=
  if (f_X9_isCell a0) = 0 then (some (-1))
  else (if (f_X9_isWithin a1 0 1) = 0 then (some (-2))
    else (if a1 = 0 then ((f_X3_walkersIn N 0 a0 σ).bind fun z30 =>
        some z30)
      else ((f_X3_othersIn N 0 a0 σ).bind fun z41 =>
        some z41)))
set_option maxRecDepth 20000 in
theorem t_X9_standing {Z : q_Z} {l : Launch} (N : Nat) (a0 : Int32) (a1 : Int32)  (σ : q_S) {r : Int32} (h : f_X9_standing N a0 a1 σ = some r) : q_M Z l y_X9_standing prog_1_method_13_code 3 (some .int) 3 [.ref (Z.1 68), .int a0, .int a1] σ (some (.int r)) σ := by
  refine q_met (by decide +kernel) (Nat.le_of_ble_eq_true rfl) (fun Γ hΓ B En => ?_)
  unfold f_X9_standing at h
  refine g_cut (lv' := [(0, .ref (Z.1 68)), (1, .int a0), (2, .int a1)]) rfl ?_
  refine g_iload_n B d_X9_standing_0 rfl rfl ?_
  refine g_callS (As := [.int a0]) (rest := []) B d_X9_standing_1 (t_X9_isCell a0 σ rfl) m_X9_isCell w_WaterOthers_66 rfl rfl (Nat.le_of_ble_eq_true rfl) (by omega) (by decide) ?_
  refine g_if_ne (tgt := 9) B d_X9_standing_4 (by decide) h (fun h => ?_) (fun h => ?_)
  · refine g_iload_n B d_X9_standing_9 rfl rfl ?_
    refine g_iconst (v := 0) B d_X9_standing_10 (by decide) ?_
    refine g_iconst (v := 1) B d_X9_standing_11 (by decide) ?_
    refine g_callS (As := [.int a1, .int 0, .int 1]) (rest := []) B d_X9_standing_12 (t_X9_isWithin a1 0 1 σ rfl) m_X9_isWithin w_WaterOthers_74 rfl rfl (Nat.le_of_ble_eq_true rfl) (by omega) (by decide) ?_
    refine g_if_ne (tgt := 21) B d_X9_standing_15 (by decide) h (fun h => ?_) (fun h => ?_)
    · refine g_iload_n B d_X9_standing_21 rfl rfl ?_
      refine g_if_ne (tgt := 36) B d_X9_standing_22 (by decide) h (fun h => ?_) (fun h => ?_)
      · refine g_aload_n B d_X9_standing_36 rfl rfl ?_
        refine g_get (ci := 9) (k := 1) (v := .ref (Z.1 0)) B d_X9_standing_37 q_in9 rfl (by decide) rfl (by decide) w_WaterOthers_19 rfl rfl ?_
        refine g_iload_n B d_X9_standing_40 rfl rfl ?_
        obtain ⟨z41, g41, h⟩ := q_bind h
        refine g_callV (p0 := 0) (ci := 3) (As := [.int a0]) (rest := []) B d_X9_standing_41 (t_X3_othersIn N 0 a0 q_r0 σ g41) m_X3_othersIn w_WaterOthers_175 (q_Rlt q_r0) ((q_cR q_r0) _ _) rfl rfl rfl (Nat.le_of_ble_eq_true rfl) (by omega) (by decide) ?_
        obtain rfl := q_po h
        exact g_iret B En d_X9_standing_44
      · refine g_aload_n B d_X9_standing_25 rfl rfl ?_
        refine g_get (ci := 9) (k := 1) (v := .ref (Z.1 0)) B d_X9_standing_26 q_in9 rfl (by decide) rfl (by decide) w_WaterOthers_19 rfl rfl ?_
        refine g_iload_n B d_X9_standing_29 rfl rfl ?_
        obtain ⟨z30, g30, h⟩ := q_bind h
        refine g_callV (p0 := 0) (ci := 3) (As := [.int a0]) (rest := []) B d_X9_standing_30 (t_X3_walkersIn N 0 a0 q_r0 σ g30) m_X3_walkersIn w_WaterOthers_172 (q_Rlt q_r0) ((q_cR q_r0) _ _) rfl rfl rfl (Nat.le_of_ble_eq_true rfl) (by omega) (by decide) ?_
        refine g_goto (tgt := 44) B d_X9_standing_33 (by decide) ?_
        obtain rfl := q_po h
        exact g_iret B En d_X9_standing_44
    · refine g_bipush (v := (-2)) B d_X9_standing_18 (by decide) ?_
      obtain rfl := q_po h
      exact g_iret B En d_X9_standing_20
  · refine g_iconst (v := (-1)) B d_X9_standing_7 (by decide) ?_
    obtain rfl := q_po h
    exact g_iret B En d_X9_standing_8

theorem w_WaterOthers_178 : Cond.methodLink "WaterOthers" 178 y_X3_isHeld ∈ q_tbl := q_mem 492 (by decide +kernel) (by decide +kernel)
theorem w_WaterOthers_182 : Cond.methodLink "WaterOthers" 182 y_X7_find ∈ q_tbl := q_mem 493 (by decide +kernel) (by decide +kernel)
theorem w_WaterOthers_186 : Cond.fieldLinkNest "WaterOthers" 186 "WaterOthers$TripFinder" "acts" "I" "WaterOthers" ∈ q_nst := q_memN 186 (by decide +kernel) (by decide +kernel)
theorem w_WaterOthers_187 : Cond.fieldLinkNest "WaterOthers" 187 "WaterOthers$TripFinder" "first" "I" "WaterOthers" ∈ q_nst := q_memN 188 (by decide +kernel) (by decide +kernel)
theorem w_WaterOthers_41 : Cond.fieldLink "WaterOthers" 41 "WaterOthers" "tripFinder" "LWaterOthers$TripFinder;" ∈ q_tbl := q_mem 259 (by decide +kernel) (by decide +kernel)
def f_X9_trip_74 (N : Nat)  (x3 : Int32) (e1 : Nat) (t2 : Int32) (t3 : Int32) (σ : q_S) : Option (Int32 × q_S) :=
  (f_X7_find N e1 t2 t3 σ).bind fun z74 =>
  if x3 = 0 then (some ((z74.1 74 3), z74))
  else (some ((z74.1 74 4), z74))
def f_X9_trip (N : Nat) (a0 : Int32) (a1 : Int32) (a2 : Int32) (σ : q_S) : Option (Int32 × q_S) :=
  (f_X3_has 0 a0 σ).bind fun z5 =>
  if z5 = 0 then (some ((-1), σ))
  else (if (f_X9_isCell a1) = 0 then (some ((-1), σ))
    else (if (f_X9_isWithin a2 0 1) = 0 then (some ((-2), σ))
      else (if ¬ ((a0 : Int32) < 0 ∨ 6 ≤ (a0 : Int32).toNatClampNeg) then if (f_X3_isHeld 0 (0 + 2 + (a0 : Int32).toNatClampNeg) σ) = 0 then (f_X9_trip_74 N a2 (0 + 2 + (a0 : Int32).toNatClampNeg) a1 (-6) σ)
        else (f_X9_trip_74 N a2 (0 + 2 + (a0 : Int32).toNatClampNeg) a1 (σ.1 0 1) σ) else none)))
set_option maxRecDepth 20000 in
theorem t_X9_trip_74 {Z : q_Z} {Γ : q_C} {r : Int32} {σ' : q_S} (B : q_B Z Γ prog_1_method_14_code "WaterOthers" 5 6) (En : q_E Z Γ (some .int) (some (.int r)) σ') (N : Nat)  (x3 : Int32) (e1 : Nat) (t2 : Int32) (t3 : Int32)  (σ : q_S) (he1 : q_Wk e1) (h : f_X9_trip_74 N x3 e1 t2 t3 σ = some (r, σ')) : q_G Z Γ 5 σ 74 [(0, .ref (Z.1 68)), (3, .int x3)] [.int t3, .int t2, .ref (Z.1 e1), .ref (Z.1 74)] := by
  unfold f_X9_trip_74 at h
  obtain ⟨z74, g74, h⟩ := q_bind h
  refine g_callV (p0 := 74) (ci := 7) (As := [.ref (Z.1 e1), .int t2, .int t3]) (rest := []) B d_X9_trip_74 (t_X7_find N e1 t2 t3 he1 σ g74) m_X7_find w_WaterOthers_182 (by decide) rfl rfl rfl rfl (Nat.le_of_ble_eq_true rfl) (by omega) (by decide) ?_
  refine g_iload_n B d_X9_trip_77 rfl rfl ?_
  refine g_if_ne (tgt := 91) B d_X9_trip_78 (by decide) h (fun h => ?_) (fun h => ?_)
  · refine g_aload_n B d_X9_trip_91 rfl rfl ?_
    refine g_get (ci := 9) (k := 5) (v := .ref (Z.1 74)) B d_X9_trip_92 q_in9 rfl (by decide) rfl (by decide) w_WaterOthers_41 rfl rfl ?_
    refine g_getN (ci := 7) (k := 4) B d_X9_trip_95 q_in7 rfl (by decide) rfl (by decide) w_WaterOthers_187 rfl rfl ?_
    obtain ⟨rfl, rfl⟩ := q_ps h
    exact g_iret B En d_X9_trip_98
  · refine g_aload_n B d_X9_trip_81 rfl rfl ?_
    refine g_get (ci := 9) (k := 5) (v := .ref (Z.1 74)) B d_X9_trip_82 q_in9 rfl (by decide) rfl (by decide) w_WaterOthers_41 rfl rfl ?_
    refine g_getN (ci := 7) (k := 3) B d_X9_trip_85 q_in7 rfl (by decide) rfl (by decide) w_WaterOthers_186 rfl rfl ?_
    refine g_goto (tgt := 98) B d_X9_trip_88 (by decide) ?_
    obtain ⟨rfl, rfl⟩ := q_ps h
    exact g_iret B En d_X9_trip_98
set_option maxRecDepth 20000 in
theorem t_X9_trip {Z : q_Z} {l : Launch} (N : Nat) (a0 : Int32) (a1 : Int32) (a2 : Int32)  (σ : q_S) {r : Int32} {σ' : q_S} (h : f_X9_trip N a0 a1 a2 σ = some (r, σ')) : q_M Z l y_X9_trip prog_1_method_14_code 5 (some .int) 6 [.ref (Z.1 68), .int a0, .int a1, .int a2] σ (some (.int r)) σ' := by
  refine q_met (by decide +kernel) (Nat.le_of_ble_eq_true rfl) (fun Γ hΓ B En => ?_)
  unfold f_X9_trip at h
  refine g_cut (lv' := [(0, .ref (Z.1 68)), (1, .int a0), (2, .int a1), (3, .int a2)]) rfl ?_
  refine g_aload_n B d_X9_trip_0 rfl rfl ?_
  refine g_get (ci := 9) (k := 1) (v := .ref (Z.1 0)) B d_X9_trip_1 q_in9 rfl (by decide) rfl (by decide) w_WaterOthers_19 rfl rfl ?_
  refine g_iload_n B d_X9_trip_4 rfl rfl ?_
  obtain ⟨z5, g5, h⟩ := q_bind h
  refine g_callV (p0 := 0) (ci := 3) (As := [.int a0]) (rest := []) B d_X9_trip_5 (t_X3_has 0 a0 q_r0 σ g5) m_X3_has w_WaterOthers_101 (q_Rlt q_r0) ((q_cR q_r0) _ _) rfl rfl rfl (Nat.le_of_ble_eq_true rfl) (by omega) (by decide) ?_
  refine g_if_eq (tgt := 18) B d_X9_trip_8 (by decide) h (fun h => ?_) (fun h => ?_)
  · refine g_iconst (v := (-1)) B d_X9_trip_18 (by decide) ?_
    obtain ⟨rfl, rfl⟩ := q_ps h
    exact g_iret B En d_X9_trip_19
  · refine g_iload_n B d_X9_trip_11 rfl rfl ?_
    refine g_callS (As := [.int a1]) (rest := []) B d_X9_trip_12 (t_X9_isCell a1 σ rfl) m_X9_isCell w_WaterOthers_66 rfl rfl (Nat.le_of_ble_eq_true rfl) (by omega) (by decide) ?_
    refine g_if_ne (tgt := 20) B d_X9_trip_15 (by decide) h (fun h => ?_) (fun h => ?_)
    · refine g_iload_n B d_X9_trip_20 rfl rfl ?_
      refine g_iconst (v := 0) B d_X9_trip_21 (by decide) ?_
      refine g_iconst (v := 1) B d_X9_trip_22 (by decide) ?_
      refine g_callS (As := [.int a2, .int 0, .int 1]) (rest := []) B d_X9_trip_23 (t_X9_isWithin a2 0 1 σ rfl) m_X9_isWithin w_WaterOthers_74 rfl rfl (Nat.le_of_ble_eq_true rfl) (by omega) (by decide) ?_
      refine g_if_ne (tgt := 32) B d_X9_trip_26 (by decide) h (fun h => ?_) (fun h => ?_)
      · refine g_aload_n B d_X9_trip_32 rfl rfl ?_
        refine g_get (ci := 9) (k := 1) (v := .ref (Z.1 0)) B d_X9_trip_33 q_in9 rfl (by decide) rfl (by decide) w_WaterOthers_19 rfl rfl ?_
        refine g_getN (ci := 3) (k := 4) (v := .ref (Z.1 1)) B d_X9_trip_36 q_in3 rfl (q_Rlt q_r0) ((q_cR q_r0) _ _) (by decide) w_WaterOthers_81 rfl rfl ?_
        refine g_iload_n B d_X9_trip_39 rfl rfl ?_
        obtain ⟨h40, h⟩ := q_chk h
        refine g_aald (t := 4) (f := (fun j => 0 + 2 + j)) B d_X9_trip_40 (q_RAlt q_r0) (q_cRA q_r0) rfl h40 ?_
        refine g_astore B d_X9_trip_41 (by decide) ?_
        refine g_aload_n B d_X9_trip_43 rfl rfl ?_
        refine g_get (ci := 9) (k := 5) (v := .ref (Z.1 74)) B d_X9_trip_44 q_in9 rfl (by decide) rfl (by decide) w_WaterOthers_41 rfl rfl ?_
        refine g_aload B d_X9_trip_47 rfl ?_
        refine g_iload_n B d_X9_trip_49 rfl rfl ?_
        refine g_aload_n B d_X9_trip_50 rfl rfl ?_
        refine g_get (ci := 9) (k := 1) (v := .ref (Z.1 0)) B d_X9_trip_51 q_in9 rfl (by decide) rfl (by decide) w_WaterOthers_19 rfl rfl ?_
        refine g_aload B d_X9_trip_54 rfl ?_
        refine g_callV (p0 := 0) (ci := 3) (As := [.ref (Z.1 (0 + 2 + (a0 : Int32).toNatClampNeg))]) (rest := [.int a1, .ref (Z.1 (0 + 2 + (a0 : Int32).toNatClampNeg)), .ref (Z.1 74)]) B d_X9_trip_56 (t_X3_isHeld 0 (0 + 2 + (a0 : Int32).toNatClampNeg) q_r0 (q_RW q_r0 h40) σ rfl) m_X3_isHeld w_WaterOthers_178 (q_Rlt q_r0) ((q_cR q_r0) _ _) rfl rfl rfl (Nat.le_of_ble_eq_true rfl) (by omega) (by decide) ?_
        refine g_if_eq (tgt := 72) B d_X9_trip_59 (by decide) h (fun h => ?_) (fun h => ?_)
        · refine g_bipush (v := (-6)) B d_X9_trip_72 (by decide) ?_
          exact g_cut rfl (t_X9_trip_74 B En N a2 (0 + 2 + (a0 : Int32).toNatClampNeg) a1 (-6) σ (q_RW q_r0 h40) h)
        · refine g_aload_n B d_X9_trip_62 rfl rfl ?_
          refine g_get (ci := 9) (k := 1) (v := .ref (Z.1 0)) B d_X9_trip_63 q_in9 rfl (by decide) rfl (by decide) w_WaterOthers_19 rfl rfl ?_
          refine g_getN (ci := 3) (k := 1) B d_X9_trip_66 q_in3 rfl (q_Rlt q_r0) ((q_cR q_r0) _ _) (by decide) w_WaterOthers_78 rfl rfl ?_
          refine g_goto (tgt := 74) B d_X9_trip_69 (by decide) ?_
          exact g_cut rfl (t_X9_trip_74 B En N a2 (0 + 2 + (a0 : Int32).toNatClampNeg) a1 (σ.1 0 1) σ (q_RW q_r0 h40) h)
      · refine g_bipush (v := (-2)) B d_X9_trip_29 (by decide) ?_
        obtain ⟨rfl, rfl⟩ := q_ps h
        exact g_iret B En d_X9_trip_31
    · refine g_iconst (v := (-1)) B d_X9_trip_18 (by decide) ?_
      obtain ⟨rfl, rfl⟩ := q_ps h
      exact g_iret B En d_X9_trip_19

theorem w_WaterOthers_276 : Cond.fieldLinkNest "WaterOthers" 276 "WaterOthers$Walker" "strayEast" "Z" "WaterOthers" ∈ q_nst := q_memN 90 (by decide +kernel) (by decide +kernel)
theorem w_WaterOthers_279 : Cond.fieldLinkNest "WaterOthers" 279 "WaterOthers$Walker" "strayCell" "I" "WaterOthers" ∈ q_nst := q_memN 88 (by decide +kernel) (by decide +kernel)
theorem w_WaterOthers_282 : Cond.methodLink "WaterOthers" 282 y_J9_abs_0f7a4 ∈ q_tbl := q_mem 530 (by decide +kernel) (by decide +kernel)
theorem w_WaterOthers_285 : Cond.methodLink "WaterOthers" 285 y_X9_isEastNext ∈ q_tbl := q_mem 531 (by decide +kernel) (by decide +kernel)
def f_X9_meeting_13 (N : Nat)  (p0 : Nat) (x1 : Int32) (σ : q_S) : Nat → Int32 → Int32 → Int32 → Option Int32
  | 0, _, _, _ => none
  | n + 1, x2, x3, x4 =>
    if (40 : Int32) ≤ x4 then (some (-6))
    else (if x4 < (f_J9_abs_0f7a4 (x2 - (σ.1 (p0 + 6) (0 : Int32).toNatClampNeg))) then (if (f_X9_isEastNext x2 x3) = 0 then (f_X9_meeting_13 N p0 x1 σ n (x2 + (-1)) (f_X9_isEastNext x2 x3) (x4 + 1))
        else (f_X9_meeting_13 N p0 x1 σ n (x2 + 1) (f_X9_isEastNext x2 x3) (x4 + 1)))
      else (if x1 = 0 then (some x4)
        else (some x2)))
def f_X9_meeting (N : Nat) (a0 : Nat) (a1 : Int32) (σ : q_S) : Option Int32 :=
  f_X9_meeting_13 N a0 a1 σ N (σ.1 a0 3) (σ.1 a0 4) 0
set_option maxRecDepth 20000 in
theorem t_X9_meeting_13 {Z : q_Z} {Γ : q_C} {σ : q_S} {r : Int32} (B : q_B Z Γ prog_1_method_30_code "WaterOthers" 5 2) (En : q_E Z Γ (some .int) (some (.int r)) σ) (N : Nat)  (p0 : Nat) (x1 : Int32)  (hp0 : q_Wk p0) : ∀ (n : Nat) (x2 : Int32) (x3 : Int32) (x4 : Int32), f_X9_meeting_13 N p0 x1 σ n x2 x3 x4 = some r → q_G Z Γ 5 σ 13 [(0, .ref (Z.1 p0)), (1, .int x1), (2, .int x2), (3, .int x3), (4, .int x4)] [] := by
  intro n
  induction n with
  | zero =>
    intro x2 x3 x4 h
    cases h
  | succ n ih =>
    intro x2 x3 x4 h
    unfold f_X9_meeting_13 at h
    refine g_iload B d_X9_meeting_13 rfl ?_
    refine g_bipush (v := 40) B d_X9_meeting_15 (by decide) ?_
    refine g_icmp_ge (tgt := 71) B d_X9_meeting_17 (by decide) h (fun h => ?_) (fun h => ?_)
    · refine g_bipush (v := (-6)) B d_X9_meeting_71 (by decide) ?_
      obtain rfl := q_po h
      exact g_iret B En d_X9_meeting_73
    · refine g_iload_n B d_X9_meeting_20 rfl rfl ?_
      refine g_aload_n B d_X9_meeting_21 rfl rfl ?_
      refine g_getN (ci := 8) (k := 5) (v := .ref (Z.1 (p0 + 6))) B d_X9_meeting_22 q_in8 rfl (q_Wlt hp0) ((q_cW hp0) _ _) (by decide) w_WaterOthers_146 rfl rfl ?_
      refine g_iconst (v := 0) B d_X9_meeting_25 (by decide) ?_
      refine g_iald B d_X9_meeting_26 (q_WAlt hp0) (q_cWA hp0) (by decide) ?_
      refine g_isub B d_X9_meeting_27 ?_
      refine g_callS (As := [.int (x2 - (σ.1 (p0 + 6) (0 : Int32).toNatClampNeg))]) (rest := []) B d_X9_meeting_28 (t_J9_abs_0f7a4 (x2 - (σ.1 (p0 + 6) (0 : Int32).toNatClampNeg)) σ rfl) m_J9_abs_0f7a4 w_WaterOthers_282 rfl rfl (Nat.le_of_ble_eq_true rfl) (by omega) (by decide) ?_
      refine g_iload B d_X9_meeting_31 rfl ?_
      refine g_icmp_gt (tgt := 47) B d_X9_meeting_33 (by decide) h (fun h => ?_) (fun h => ?_)
      · refine g_iload_n B d_X9_meeting_47 rfl rfl ?_
        refine g_iload_n B d_X9_meeting_48 rfl rfl ?_
        refine g_callS (As := [.int x2, .int x3]) (rest := []) B d_X9_meeting_49 (t_X9_isEastNext x2 x3 σ rfl) m_X9_isEastNext w_WaterOthers_285 rfl rfl (Nat.le_of_ble_eq_true rfl) (by omega) (by decide) ?_
        refine g_istore_n B d_X9_meeting_52 rfl (by decide) ?_
        refine g_iload_n B d_X9_meeting_53 rfl rfl ?_
        refine g_iload_n B d_X9_meeting_54 rfl rfl ?_
        refine g_if_eq (tgt := 62) B d_X9_meeting_55 (by decide) h (fun h => ?_) (fun h => ?_)
        · refine g_iconst (v := (-1)) B d_X9_meeting_62 (by decide) ?_
          refine g_iadd B d_X9_meeting_63 ?_
          refine g_istore_n B d_X9_meeting_64 rfl (by decide) ?_
          refine g_iinc (v := (x4 + 1)) B d_X9_meeting_65 rfl rfl (by decide) ?_
          refine g_goto (tgt := 13) B d_X9_meeting_68 (by decide) ?_
          exact g_cut rfl (ih (x2 + (-1)) (f_X9_isEastNext x2 x3) (x4 + 1) h)
        · refine g_iconst (v := 1) B d_X9_meeting_58 (by decide) ?_
          refine g_goto (tgt := 63) B d_X9_meeting_59 (by decide) ?_
          refine g_iadd B d_X9_meeting_63 ?_
          refine g_istore_n B d_X9_meeting_64 rfl (by decide) ?_
          refine g_iinc (v := (x4 + 1)) B d_X9_meeting_65 rfl rfl (by decide) ?_
          refine g_goto (tgt := 13) B d_X9_meeting_68 (by decide) ?_
          exact g_cut rfl (ih (x2 + 1) (f_X9_isEastNext x2 x3) (x4 + 1) h)
      · refine g_iload_n B d_X9_meeting_36 rfl rfl ?_
        refine g_if_eq (tgt := 44) B d_X9_meeting_37 (by decide) h (fun h => ?_) (fun h => ?_)
        · refine g_iload B d_X9_meeting_44 rfl ?_
          obtain rfl := q_po h
          exact g_iret B En d_X9_meeting_46
        · refine g_iload_n B d_X9_meeting_40 rfl rfl ?_
          refine g_goto (tgt := 46) B d_X9_meeting_41 (by decide) ?_
          obtain rfl := q_po h
          exact g_iret B En d_X9_meeting_46
set_option maxRecDepth 20000 in
theorem t_X9_meeting {Z : q_Z} {l : Launch} (N : Nat) (a0 : Nat) (a1 : Int32) (h0 : q_Wk a0) (σ : q_S) {r : Int32} (h : f_X9_meeting N a0 a1 σ = some r) : q_M Z l y_X9_meeting prog_1_method_30_code 5 (some .int) 2 [.ref (Z.1 a0), .int a1] σ (some (.int r)) σ := by
  refine q_met (by decide +kernel) (Nat.le_of_ble_eq_true rfl) (fun Γ hΓ B En => ?_)
  unfold f_X9_meeting at h
  refine g_cut (lv' := [(0, .ref (Z.1 a0)), (1, .int a1)]) rfl ?_
  refine g_aload_n B d_X9_meeting_0 rfl rfl ?_
  refine g_getN (ci := 8) (k := 3) B d_X9_meeting_1 q_in8 rfl (q_Wlt h0) ((q_cW h0) _ _) (by decide) w_WaterOthers_279 rfl rfl ?_
  refine g_istore_n B d_X9_meeting_4 rfl (by decide) ?_
  refine g_aload_n B d_X9_meeting_5 rfl rfl ?_
  refine g_getN (ci := 8) (k := 4) B d_X9_meeting_6 q_in8 rfl (q_Wlt h0) ((q_cW h0) _ _) (by decide) w_WaterOthers_276 rfl rfl ?_
  refine g_istore_n B d_X9_meeting_9 rfl (by decide) ?_
  refine g_iconst (v := 0) B d_X9_meeting_10 (by decide) ?_
  refine g_istore B d_X9_meeting_11 (by decide) ?_
  exact g_cut rfl (t_X9_meeting_13 B En N a0 a1 h0 N (σ.1 a0 3) (σ.1 a0 4) 0 h)

theorem w_WaterOthers_190 : Cond.methodLink "WaterOthers" 190 y_X9_meeting ∈ q_tbl := q_mem 527 (by decide +kernel) (by decide +kernel)
def f_X9_again (N : Nat) (a0 : Int32) (a1 : Int32) (σ : q_S) : Option Int32 :=
  (f_X3_has 0 a0 σ).bind fun z5 =>
  if z5 = 0 then (some (-1))
  else (if (f_X9_isWithin a1 0 1) = 0 then (some (-2))
    else (if ¬ ((a0 : Int32) < 0 ∨ 6 ≤ (a0 : Int32).toNatClampNeg) then if (σ.1 (0 + 2 + (a0 : Int32).toNatClampNeg) 2) = 0 then (some (-3))
      else (if a1 = 1 then ((f_X9_meeting N (0 + 2 + (a0 : Int32).toNatClampNeg) 1 σ).bind fun z62 =>
          some z62)
        else ((f_X9_meeting N (0 + 2 + (a0 : Int32).toNatClampNeg) 0 σ).bind fun z62 =>
          some z62)) else none))
set_option maxRecDepth 20000 in
theorem t_X9_again {Z : q_Z} {l : Launch} (N : Nat) (a0 : Int32) (a1 : Int32)  (σ : q_S) {r : Int32} (h : f_X9_again N a0 a1 σ = some r) : q_M Z l y_X9_again prog_1_method_15_code 3 (some .int) 3 [.ref (Z.1 68), .int a0, .int a1] σ (some (.int r)) σ := by
  refine q_met (by decide +kernel) (Nat.le_of_ble_eq_true rfl) (fun Γ hΓ B En => ?_)
  unfold f_X9_again at h
  refine g_cut (lv' := [(0, .ref (Z.1 68)), (1, .int a0), (2, .int a1)]) rfl ?_
  refine g_aload_n B d_X9_again_0 rfl rfl ?_
  refine g_get (ci := 9) (k := 1) (v := .ref (Z.1 0)) B d_X9_again_1 q_in9 rfl (by decide) rfl (by decide) w_WaterOthers_19 rfl rfl ?_
  refine g_iload_n B d_X9_again_4 rfl rfl ?_
  obtain ⟨z5, g5, h⟩ := q_bind h
  refine g_callV (p0 := 0) (ci := 3) (As := [.int a0]) (rest := []) B d_X9_again_5 (t_X3_has 0 a0 q_r0 σ g5) m_X3_has w_WaterOthers_101 (q_Rlt q_r0) ((q_cR q_r0) _ _) rfl rfl rfl (Nat.le_of_ble_eq_true rfl) (by omega) (by decide) ?_
  refine g_if_ne (tgt := 13) B d_X9_again_8 (by decide) h (fun h => ?_) (fun h => ?_)
  · refine g_iload_n B d_X9_again_13 rfl rfl ?_
    refine g_iconst (v := 0) B d_X9_again_14 (by decide) ?_
    refine g_iconst (v := 1) B d_X9_again_15 (by decide) ?_
    refine g_callS (As := [.int a1, .int 0, .int 1]) (rest := []) B d_X9_again_16 (t_X9_isWithin a1 0 1 σ rfl) m_X9_isWithin w_WaterOthers_74 rfl rfl (Nat.le_of_ble_eq_true rfl) (by omega) (by decide) ?_
    refine g_if_ne (tgt := 25) B d_X9_again_19 (by decide) h (fun h => ?_) (fun h => ?_)
    · refine g_aload_n B d_X9_again_25 rfl rfl ?_
      refine g_get (ci := 9) (k := 1) (v := .ref (Z.1 0)) B d_X9_again_26 q_in9 rfl (by decide) rfl (by decide) w_WaterOthers_19 rfl rfl ?_
      refine g_getN (ci := 3) (k := 4) (v := .ref (Z.1 1)) B d_X9_again_29 q_in3 rfl (q_Rlt q_r0) ((q_cR q_r0) _ _) (by decide) w_WaterOthers_81 rfl rfl ?_
      refine g_iload_n B d_X9_again_32 rfl rfl ?_
      obtain ⟨h33, h⟩ := q_chk h
      refine g_aald (t := 4) (f := (fun j => 0 + 2 + j)) B d_X9_again_33 (q_RAlt q_r0) (q_cRA q_r0) rfl h33 ?_
      refine g_getN (ci := 8) (k := 2) B d_X9_again_34 q_in8 rfl (q_Wlt (q_RW q_r0 h33)) ((q_cW (q_RW q_r0 h33)) _ _) (by decide) w_WaterOthers_154 rfl rfl ?_
      refine g_if_ne (tgt := 43) B d_X9_again_37 (by decide) h (fun h => ?_) (fun h => ?_)
      · refine g_aload_n B d_X9_again_43 rfl rfl ?_
        refine g_get (ci := 9) (k := 1) (v := .ref (Z.1 0)) B d_X9_again_44 q_in9 rfl (by decide) rfl (by decide) w_WaterOthers_19 rfl rfl ?_
        refine g_getN (ci := 3) (k := 4) (v := .ref (Z.1 1)) B d_X9_again_47 q_in3 rfl (q_Rlt q_r0) ((q_cR q_r0) _ _) (by decide) w_WaterOthers_81 rfl rfl ?_
        refine g_iload_n B d_X9_again_50 rfl rfl ?_
        refine g_aald (t := 4) (f := (fun j => 0 + 2 + j)) B d_X9_again_51 (q_RAlt q_r0) (q_cRA q_r0) rfl h33 ?_
        refine g_iload_n B d_X9_again_52 rfl rfl ?_
        refine g_iconst (v := 1) B d_X9_again_53 (by decide) ?_
        refine g_icmp_ne (tgt := 61) B d_X9_again_54 (by decide) h (fun h => ?_) (fun h => ?_)
        · refine g_iconst (v := 0) B d_X9_again_61 (by decide) ?_
          obtain ⟨z62, g62, h⟩ := q_bind h
          refine g_callS (As := [.ref (Z.1 (0 + 2 + (a0 : Int32).toNatClampNeg)), .int 0]) (rest := []) B d_X9_again_62 (t_X9_meeting N (0 + 2 + (a0 : Int32).toNatClampNeg) 0 (q_RW q_r0 h33) σ g62) m_X9_meeting w_WaterOthers_190 rfl rfl (Nat.le_of_ble_eq_true rfl) (by omega) (by decide) ?_
          obtain rfl := q_po h
          exact g_iret B En d_X9_again_65
        · refine g_iconst (v := 1) B d_X9_again_57 (by decide) ?_
          refine g_goto (tgt := 62) B d_X9_again_58 (by decide) ?_
          obtain ⟨z62, g62, h⟩ := q_bind h
          refine g_callS (As := [.ref (Z.1 (0 + 2 + (a0 : Int32).toNatClampNeg)), .int 1]) (rest := []) B d_X9_again_62 (t_X9_meeting N (0 + 2 + (a0 : Int32).toNatClampNeg) 1 (q_RW q_r0 h33) σ g62) m_X9_meeting w_WaterOthers_190 rfl rfl (Nat.le_of_ble_eq_true rfl) (by omega) (by decide) ?_
          obtain rfl := q_po h
          exact g_iret B En d_X9_again_65
      · refine g_bipush (v := (-3)) B d_X9_again_40 (by decide) ?_
        obtain rfl := q_po h
        exact g_iret B En d_X9_again_42
    · refine g_bipush (v := (-2)) B d_X9_again_22 (by decide) ?_
      obtain rfl := q_po h
      exact g_iret B En d_X9_again_24
  · refine g_iconst (v := (-1)) B d_X9_again_11 (by decide) ?_
    obtain rfl := q_po h
    exact g_iret B En d_X9_again_12

theorem k_w_WaterOthers_194 : Cond.constant "WaterOthers" 194 (999999) ∈ q_tbl := q_mem 536 (by decide +kernel) (by decide +kernel)
theorem w_WaterOthers_195 : Cond.methodLink "WaterOthers" 195 y_X0_settle ∈ q_tbl := q_mem 537 (by decide +kernel) (by decide +kernel)
theorem w_WaterOthers_198 : Cond.fieldLinkNest "WaterOthers" 198 "WaterOthers$ArchQueue" "leastWait" "I" "WaterOthers" ∈ q_nst := q_memN 211 (by decide +kernel) (by decide +kernel)
theorem w_WaterOthers_201 : Cond.fieldLinkNest "WaterOthers" 201 "WaterOthers$ArchQueue" "leastOrder" "I" "WaterOthers" ∈ q_nst := q_memN 213 (by decide +kernel) (by decide +kernel)
theorem w_WaterOthers_48 : Cond.fieldLink "WaterOthers" 48 "WaterOthers" "archQueue" "LWaterOthers$ArchQueue;" ∈ q_tbl := q_mem 260 (by decide +kernel) (by decide +kernel)
def f_X9_order (N : Nat) (a0 : Int32) (a1 : Int32) (a2 : Int32) (σ : q_S) : Option (Int32 × q_S) :=
  if (f_X9_isWithin a0 0 999999) = 0 then (some ((-2), σ))
  else (if (f_X9_isWithin a1 0 999999) = 0 then (some ((-2), σ))
    else (if (f_X9_isWithin a2 0 1) = 0 then (some ((-2), σ))
      else ((f_X0_settle N a0 a1 σ).bind fun z38 =>
        if a2 = 0 then (some ((z38.1 77 3), z38))
        else (some ((z38.1 77 4), z38)))))
set_option maxRecDepth 20000 in
theorem t_X9_order {Z : q_Z} {l : Launch} (N : Nat) (a0 : Int32) (a1 : Int32) (a2 : Int32)  (σ : q_S) {r : Int32} {σ' : q_S} (h : f_X9_order N a0 a1 a2 σ = some (r, σ')) : q_M Z l y_X9_order prog_1_method_16_code 4 (some .int) 11 [.ref (Z.1 68), .int a0, .int a1, .int a2] σ (some (.int r)) σ' := by
  refine q_met (by decide +kernel) (Nat.le_of_ble_eq_true rfl) (fun Γ hΓ B En => ?_)
  unfold f_X9_order at h
  refine g_cut (lv' := [(0, .ref (Z.1 68)), (1, .int a0), (2, .int a1), (3, .int a2)]) rfl ?_
  refine g_iload_n B d_X9_order_0 rfl rfl ?_
  refine g_iconst (v := 0) B d_X9_order_1 (by decide) ?_
  refine g_ldc (v := 999999) B d_X9_order_2 k_w_WaterOthers_194 ?_
  refine g_callS (As := [.int a0, .int 0, .int 999999]) (rest := []) B d_X9_order_4 (t_X9_isWithin a0 0 999999 σ rfl) m_X9_isWithin w_WaterOthers_74 rfl rfl (Nat.le_of_ble_eq_true rfl) (by omega) (by decide) ?_
  refine g_if_eq (tgt := 29) B d_X9_order_7 (by decide) h (fun h => ?_) (fun h => ?_)
  · refine g_bipush (v := (-2)) B d_X9_order_29 (by decide) ?_
    obtain ⟨rfl, rfl⟩ := q_ps h
    exact g_iret B En d_X9_order_31
  · refine g_iload_n B d_X9_order_10 rfl rfl ?_
    refine g_iconst (v := 0) B d_X9_order_11 (by decide) ?_
    refine g_ldc (v := 999999) B d_X9_order_12 k_w_WaterOthers_194 ?_
    refine g_callS (As := [.int a1, .int 0, .int 999999]) (rest := []) B d_X9_order_14 (t_X9_isWithin a1 0 999999 σ rfl) m_X9_isWithin w_WaterOthers_74 rfl rfl (Nat.le_of_ble_eq_true rfl) (by omega) (by decide) ?_
    refine g_if_eq (tgt := 29) B d_X9_order_17 (by decide) h (fun h => ?_) (fun h => ?_)
    · refine g_bipush (v := (-2)) B d_X9_order_29 (by decide) ?_
      obtain ⟨rfl, rfl⟩ := q_ps h
      exact g_iret B En d_X9_order_31
    · refine g_iload_n B d_X9_order_20 rfl rfl ?_
      refine g_iconst (v := 0) B d_X9_order_21 (by decide) ?_
      refine g_iconst (v := 1) B d_X9_order_22 (by decide) ?_
      refine g_callS (As := [.int a2, .int 0, .int 1]) (rest := []) B d_X9_order_23 (t_X9_isWithin a2 0 1 σ rfl) m_X9_isWithin w_WaterOthers_74 rfl rfl (Nat.le_of_ble_eq_true rfl) (by omega) (by decide) ?_
      refine g_if_ne (tgt := 32) B d_X9_order_26 (by decide) h (fun h => ?_) (fun h => ?_)
      · refine g_aload_n B d_X9_order_32 rfl rfl ?_
        refine g_get (ci := 9) (k := 6) (v := .ref (Z.1 77)) B d_X9_order_33 q_in9 rfl (by decide) rfl (by decide) w_WaterOthers_48 rfl rfl ?_
        refine g_iload_n B d_X9_order_36 rfl rfl ?_
        refine g_iload_n B d_X9_order_37 rfl rfl ?_
        obtain ⟨z38, g38, h⟩ := q_bind h
        refine g_callV (p0 := 77) (ci := 0) (As := [.int a0, .int a1]) (rest := []) B d_X9_order_38 (t_X0_settle N a0 a1 σ g38) m_X0_settle w_WaterOthers_195 (by decide) rfl rfl rfl rfl (Nat.le_of_ble_eq_true rfl) (by omega) (by decide) ?_
        refine g_iload_n B d_X9_order_41 rfl rfl ?_
        refine g_if_ne (tgt := 55) B d_X9_order_42 (by decide) h (fun h => ?_) (fun h => ?_)
        · refine g_aload_n B d_X9_order_55 rfl rfl ?_
          refine g_get (ci := 9) (k := 6) (v := .ref (Z.1 77)) B d_X9_order_56 q_in9 rfl (by decide) rfl (by decide) w_WaterOthers_48 rfl rfl ?_
          refine g_getN (ci := 0) (k := 4) B d_X9_order_59 q_in0 rfl (by decide) rfl (by decide) w_WaterOthers_201 rfl rfl ?_
          obtain ⟨rfl, rfl⟩ := q_ps h
          exact g_iret B En d_X9_order_62
        · refine g_aload_n B d_X9_order_45 rfl rfl ?_
          refine g_get (ci := 9) (k := 6) (v := .ref (Z.1 77)) B d_X9_order_46 q_in9 rfl (by decide) rfl (by decide) w_WaterOthers_48 rfl rfl ?_
          refine g_getN (ci := 0) (k := 3) B d_X9_order_49 q_in0 rfl (by decide) rfl (by decide) w_WaterOthers_198 rfl rfl ?_
          refine g_goto (tgt := 62) B d_X9_order_52 (by decide) ?_
          obtain ⟨rfl, rfl⟩ := q_ps h
          exact g_iret B En d_X9_order_62
      · refine g_bipush (v := (-2)) B d_X9_order_29 (by decide) ?_
        obtain ⟨rfl, rfl⟩ := q_ps h
        exact g_iret B En d_X9_order_31

theorem w_WaterOthers_206 : Cond.fieldLinkNest "WaterOthers" 206 "WaterOthers$Reach" "sights" "LWaterOthers$Sights;" "WaterOthers" ∈ q_nst := q_memN 120 (by decide +kernel) (by decide +kernel)
theorem w_WaterOthers_210 : Cond.methodLink "WaterOthers" 210 y_X5_add ∈ q_tbl := q_mem 553 (by decide +kernel) (by decide +kernel)
theorem w_WaterOthers_213 : Cond.fieldLinkNest "WaterOthers" 213 "WaterOthers$Sights" "count" "I" "WaterOthers" ∈ q_nst := q_memN 61 (by decide +kernel) (by decide +kernel)
def f_X9_seen (a0 : Int32) (a1 : Int32) (σ : q_S) : Option (Int32 × q_S) :=
  if (f_X9_isCell a1) = 0 then (some ((-1), σ))
  else (if (f_X9_isWithin a0 0 60) = 0 then (some ((-2), σ))
    else ((f_X5_add 14 a0 a1 σ).bind fun z31 =>
      if z31.1 = 0 then (some ((-4), z31.2))
      else (some ((z31.2.1 14 2), z31.2))))
set_option maxRecDepth 20000 in
theorem t_X9_seen {Z : q_Z} {l : Launch} (a0 : Int32) (a1 : Int32)  (σ : q_S) {r : Int32} {σ' : q_S} (h : f_X9_seen a0 a1 σ = some (r, σ')) : q_M Z l y_X9_seen prog_1_method_17_code 3 (some .int) 3 [.ref (Z.1 68), .int a0, .int a1] σ (some (.int r)) σ' := by
  refine q_met (by decide +kernel) (Nat.le_of_ble_eq_true rfl) (fun Γ hΓ B En => ?_)
  unfold f_X9_seen at h
  refine g_cut (lv' := [(0, .ref (Z.1 68)), (1, .int a0), (2, .int a1)]) rfl ?_
  refine g_iload_n B d_X9_seen_0 rfl rfl ?_
  refine g_callS (As := [.int a1]) (rest := []) B d_X9_seen_1 (t_X9_isCell a1 σ rfl) m_X9_isCell w_WaterOthers_66 rfl rfl (Nat.le_of_ble_eq_true rfl) (by omega) (by decide) ?_
  refine g_if_ne (tgt := 9) B d_X9_seen_4 (by decide) h (fun h => ?_) (fun h => ?_)
  · refine g_iload_n B d_X9_seen_9 rfl rfl ?_
    refine g_iconst (v := 0) B d_X9_seen_10 (by decide) ?_
    refine g_bipush (v := 60) B d_X9_seen_11 (by decide) ?_
    refine g_callS (As := [.int a0, .int 0, .int 60]) (rest := []) B d_X9_seen_13 (t_X9_isWithin a0 0 60 σ rfl) m_X9_isWithin w_WaterOthers_74 rfl rfl (Nat.le_of_ble_eq_true rfl) (by omega) (by decide) ?_
    refine g_if_ne (tgt := 22) B d_X9_seen_16 (by decide) h (fun h => ?_) (fun h => ?_)
    · refine g_aload_n B d_X9_seen_22 rfl rfl ?_
      refine g_get (ci := 9) (k := 1) (v := .ref (Z.1 0)) B d_X9_seen_23 q_in9 rfl (by decide) rfl (by decide) w_WaterOthers_19 rfl rfl ?_
      refine g_getN (ci := 3) (k := 5) (v := .ref (Z.1 14)) B d_X9_seen_26 q_in3 rfl (q_Rlt q_r0) ((q_cR q_r0) _ _) (by decide) w_WaterOthers_206 rfl rfl ?_
      refine g_iload_n B d_X9_seen_29 rfl rfl ?_
      refine g_iload_n B d_X9_seen_30 rfl rfl ?_
      obtain ⟨z31, g31, h⟩ := q_bind h
      refine g_callV (p0 := 14) (ci := 5) (As := [.int a0, .int a1]) (rest := []) B d_X9_seen_31 (t_X5_add 14 a0 a1 (q_RS q_r0) σ g31) m_X5_add w_WaterOthers_210 (q_Slt (q_RS q_r0)) ((q_cS (q_RS q_r0)) _ _) rfl rfl rfl (Nat.le_of_ble_eq_true rfl) (by omega) (by decide) ?_
      refine g_if_eq (tgt := 50) B d_X9_seen_34 (by decide) h (fun h => ?_) (fun h => ?_)
      · refine g_bipush (v := (-4)) B d_X9_seen_50 (by decide) ?_
        obtain ⟨rfl, rfl⟩ := q_ps h
        exact g_iret B En d_X9_seen_52
      · refine g_aload_n B d_X9_seen_37 rfl rfl ?_
        refine g_get (ci := 9) (k := 1) (v := .ref (Z.1 0)) B d_X9_seen_38 q_in9 rfl (by decide) rfl (by decide) w_WaterOthers_19 rfl rfl ?_
        refine g_getN (ci := 3) (k := 5) (v := .ref (Z.1 14)) B d_X9_seen_41 q_in3 rfl (q_Rlt q_r0) ((q_cR q_r0) _ _) (by decide) w_WaterOthers_206 rfl rfl ?_
        refine g_getN (ci := 5) (k := 2) B d_X9_seen_44 q_in5 rfl (q_Slt (q_RS q_r0)) ((q_cS (q_RS q_r0)) _ _) (by decide) w_WaterOthers_213 rfl rfl ?_
        refine g_goto (tgt := 52) B d_X9_seen_47 (by decide) ?_
        obtain ⟨rfl, rfl⟩ := q_ps h
        exact g_iret B En d_X9_seen_52
    · refine g_bipush (v := (-2)) B d_X9_seen_19 (by decide) ?_
      obtain ⟨rfl, rfl⟩ := q_ps h
      exact g_iret B En d_X9_seen_21
  · refine g_iconst (v := (-1)) B d_X9_seen_7 (by decide) ?_
    obtain ⟨rfl, rfl⟩ := q_ps h
    exact g_iret B En d_X9_seen_8

def f_X9_forget  (σ : q_S) : (Int32 × q_S) :=
  ((σ.1 14 2), (q_w σ 14 2 0))
set_option maxRecDepth 20000 in
theorem t_X9_forget {Z : q_Z} {l : Launch}   (σ : q_S) {r : Int32} {σ' : q_S} (h : f_X9_forget σ = (r, σ')) : q_M Z l y_X9_forget prog_1_method_18_code 2 (some .int) 1 [.ref (Z.1 68)] σ (some (.int r)) σ' := by
  refine q_met (by decide +kernel) (Nat.le_of_ble_eq_true rfl) (fun Γ hΓ B En => ?_)
  unfold f_X9_forget at h
  refine g_cut (lv' := [(0, .ref (Z.1 68))]) rfl ?_
  refine g_aload_n B d_X9_forget_0 rfl rfl ?_
  refine g_get (ci := 9) (k := 1) (v := .ref (Z.1 0)) B d_X9_forget_1 q_in9 rfl (by decide) rfl (by decide) w_WaterOthers_19 rfl rfl ?_
  refine g_getN (ci := 3) (k := 5) (v := .ref (Z.1 14)) B d_X9_forget_4 q_in3 rfl (q_Rlt q_r0) ((q_cR q_r0) _ _) (by decide) w_WaterOthers_206 rfl rfl ?_
  refine g_getN (ci := 5) (k := 2) B d_X9_forget_7 q_in5 rfl (q_Slt (q_RS q_r0)) ((q_cS (q_RS q_r0)) _ _) (by decide) w_WaterOthers_213 rfl rfl ?_
  refine g_istore_n B d_X9_forget_10 rfl (by decide) ?_
  refine g_aload_n B d_X9_forget_11 rfl rfl ?_
  refine g_get (ci := 9) (k := 1) (v := .ref (Z.1 0)) B d_X9_forget_12 q_in9 rfl (by decide) rfl (by decide) w_WaterOthers_19 rfl rfl ?_
  refine g_getN (ci := 3) (k := 5) (v := .ref (Z.1 14)) B d_X9_forget_15 q_in3 rfl (q_Rlt q_r0) ((q_cR q_r0) _ _) (by decide) w_WaterOthers_206 rfl rfl ?_
  refine g_iconst (v := 0) B d_X9_forget_18 (by decide) ?_
  refine g_putN (ci := 5) (k := 2) (v := 0) (ty := .int) B d_X9_forget_19 q_in5 rfl q_yk5 q_nm5 (q_Slt (q_RS q_r0)) (q_cS (q_RS q_r0)) (by decide) w_WaterOthers_213 rfl rfl rfl rfl rfl (Nat.le_of_ble_eq_true rfl) (fun _ _ => rfl) ?_
  refine g_iload_n B d_X9_forget_22 rfl rfl ?_
  obtain ⟨rfl, rfl⟩ := q_pr h
  exact g_iret B En d_X9_forget_23

theorem w_WaterOthers_214 : Cond.methodLink "WaterOthers" 214 y_X4_countFits ∈ q_tbl := q_mem 565 (by decide +kernel) (by decide +kernel)
theorem w_WaterOthers_218 : Cond.methodLink "WaterOthers" 218 y_X4_fitAt ∈ q_tbl := q_mem 578 (by decide +kernel) (by decide +kernel)
theorem w_WaterOthers_55 : Cond.fieldLink "WaterOthers" 55 "WaterOthers" "ring" "LWaterOthers$Ring;" ∈ q_tbl := q_mem 261 (by decide +kernel) (by decide +kernel)
def f_X9_fits (N : Nat) (a0 : Int32) (σ : q_S) : Option Int32 :=
  if a0 = (-1) then ((f_X4_countFits N 14 σ).bind fun z16 =>
    some z16)
  else ((f_X4_fitAt N 14 a0 σ).bind fun z34 =>
    some z34)
set_option maxRecDepth 20000 in
theorem t_X9_fits {Z : q_Z} {l : Launch} (N : Nat) (a0 : Int32)  (σ : q_S) {r : Int32} (h : f_X9_fits N a0 σ = some r) : q_M Z l y_X9_fits prog_1_method_19_code 2 (some .int) 5 [.ref (Z.1 68), .int a0] σ (some (.int r)) σ := by
  refine q_met (by decide +kernel) (Nat.le_of_ble_eq_true rfl) (fun Γ hΓ B En => ?_)
  unfold f_X9_fits at h
  refine g_cut (lv' := [(0, .ref (Z.1 68)), (1, .int a0)]) rfl ?_
  refine g_iload_n B d_X9_fits_0 rfl rfl ?_
  refine g_iconst (v := (-1)) B d_X9_fits_1 (by decide) ?_
  refine g_icmp_ne (tgt := 22) B d_X9_fits_2 (by decide) h (fun h => ?_) (fun h => ?_)
  · refine g_aload_n B d_X9_fits_22 rfl rfl ?_
    refine g_get (ci := 9) (k := 7) (v := .ref (Z.1 80)) B d_X9_fits_23 q_in9 rfl (by decide) rfl (by decide) w_WaterOthers_55 rfl rfl ?_
    refine g_aload_n B d_X9_fits_26 rfl rfl ?_
    refine g_get (ci := 9) (k := 1) (v := .ref (Z.1 0)) B d_X9_fits_27 q_in9 rfl (by decide) rfl (by decide) w_WaterOthers_19 rfl rfl ?_
    refine g_getN (ci := 3) (k := 5) (v := .ref (Z.1 14)) B d_X9_fits_30 q_in3 rfl (q_Rlt q_r0) ((q_cR q_r0) _ _) (by decide) w_WaterOthers_206 rfl rfl ?_
    refine g_iload_n B d_X9_fits_33 rfl rfl ?_
    obtain ⟨z34, g34, h⟩ := q_bind h
    refine g_callV (p0 := 80) (ci := 4) (As := [.ref (Z.1 14), .int a0]) (rest := []) B d_X9_fits_34 (t_X4_fitAt N 14 a0 (q_RS q_r0) σ g34) m_X4_fitAt w_WaterOthers_218 (by decide) rfl rfl rfl rfl (Nat.le_of_ble_eq_true rfl) (by omega) (by decide) ?_
    obtain rfl := q_po h
    exact g_iret B En d_X9_fits_37
  · refine g_aload_n B d_X9_fits_5 rfl rfl ?_
    refine g_get (ci := 9) (k := 7) (v := .ref (Z.1 80)) B d_X9_fits_6 q_in9 rfl (by decide) rfl (by decide) w_WaterOthers_55 rfl rfl ?_
    refine g_aload_n B d_X9_fits_9 rfl rfl ?_
    refine g_get (ci := 9) (k := 1) (v := .ref (Z.1 0)) B d_X9_fits_10 q_in9 rfl (by decide) rfl (by decide) w_WaterOthers_19 rfl rfl ?_
    refine g_getN (ci := 3) (k := 5) (v := .ref (Z.1 14)) B d_X9_fits_13 q_in3 rfl (q_Rlt q_r0) ((q_cR q_r0) _ _) (by decide) w_WaterOthers_206 rfl rfl ?_
    obtain ⟨z16, g16, h⟩ := q_bind h
    refine g_callV (p0 := 80) (ci := 4) (As := [.ref (Z.1 14)]) (rest := []) B d_X9_fits_16 (t_X4_countFits N 14 (q_RS q_r0) σ g16) m_X4_countFits w_WaterOthers_214 (by decide) rfl rfl rfl rfl (Nat.le_of_ble_eq_true rfl) (by omega) (by decide) ?_
    refine g_goto (tgt := 37) B d_X9_fits_19 (by decide) ?_
    obtain rfl := q_po h
    exact g_iret B En d_X9_fits_37

theorem w_WaterOthers_222 : Cond.methodLink "WaterOthers" 222 y_X4_seekQuestion ∈ q_tbl := q_mem 586 (by decide +kernel) (by decide +kernel)
theorem w_WaterOthers_226 : Cond.fieldLinkNest "WaterOthers" 226 "WaterOthers$Ring" "askBeat" "I" "WaterOthers" ∈ q_nst := q_memN 233 (by decide +kernel) (by decide +kernel)
theorem w_WaterOthers_229 : Cond.fieldLinkNest "WaterOthers" 229 "WaterOthers$Ring" "askLeft" "I" "WaterOthers" ∈ q_nst := q_memN 235 (by decide +kernel) (by decide +kernel)
def f_X9_ask (N : Nat) (a0 : Int32) (σ : q_S) : Option (Int32 × q_S) :=
  if (f_X9_isWithin a0 0 1) = 0 then (some ((-2), σ))
  else ((f_X4_seekQuestion N 14 σ).bind fun z23 =>
    if a0 = 0 then (some ((z23.1 80 1), z23))
    else (some ((z23.1 80 2), z23)))
set_option maxRecDepth 20000 in
theorem t_X9_ask {Z : q_Z} {l : Launch} (N : Nat) (a0 : Int32)  (σ : q_S) {r : Int32} {σ' : q_S} (h : f_X9_ask N a0 σ = some (r, σ')) : q_M Z l y_X9_ask prog_1_method_20_code 2 (some .int) 6 [.ref (Z.1 68), .int a0] σ (some (.int r)) σ' := by
  refine q_met (by decide +kernel) (Nat.le_of_ble_eq_true rfl) (fun Γ hΓ B En => ?_)
  unfold f_X9_ask at h
  refine g_cut (lv' := [(0, .ref (Z.1 68)), (1, .int a0)]) rfl ?_
  refine g_iload_n B d_X9_ask_0 rfl rfl ?_
  refine g_iconst (v := 0) B d_X9_ask_1 (by decide) ?_
  refine g_iconst (v := 1) B d_X9_ask_2 (by decide) ?_
  refine g_callS (As := [.int a0, .int 0, .int 1]) (rest := []) B d_X9_ask_3 (t_X9_isWithin a0 0 1 σ rfl) m_X9_isWithin w_WaterOthers_74 rfl rfl (Nat.le_of_ble_eq_true rfl) (by omega) (by decide) ?_
  refine g_if_ne (tgt := 12) B d_X9_ask_6 (by decide) h (fun h => ?_) (fun h => ?_)
  · refine g_aload_n B d_X9_ask_12 rfl rfl ?_
    refine g_get (ci := 9) (k := 7) (v := .ref (Z.1 80)) B d_X9_ask_13 q_in9 rfl (by decide) rfl (by decide) w_WaterOthers_55 rfl rfl ?_
    refine g_aload_n B d_X9_ask_16 rfl rfl ?_
    refine g_get (ci := 9) (k := 1) (v := .ref (Z.1 0)) B d_X9_ask_17 q_in9 rfl (by decide) rfl (by decide) w_WaterOthers_19 rfl rfl ?_
    refine g_getN (ci := 3) (k := 5) (v := .ref (Z.1 14)) B d_X9_ask_20 q_in3 rfl (q_Rlt q_r0) ((q_cR q_r0) _ _) (by decide) w_WaterOthers_206 rfl rfl ?_
    obtain ⟨z23, g23, h⟩ := q_bind h
    refine g_callV (p0 := 80) (ci := 4) (As := [.ref (Z.1 14)]) (rest := []) B d_X9_ask_23 (t_X4_seekQuestion N 14 (q_RS q_r0) σ g23) m_X4_seekQuestion w_WaterOthers_222 (by decide) rfl rfl rfl rfl (Nat.le_of_ble_eq_true rfl) (by omega) (by decide) ?_
    refine g_iload_n B d_X9_ask_26 rfl rfl ?_
    refine g_if_ne (tgt := 40) B d_X9_ask_27 (by decide) h (fun h => ?_) (fun h => ?_)
    · refine g_aload_n B d_X9_ask_40 rfl rfl ?_
      refine g_get (ci := 9) (k := 7) (v := .ref (Z.1 80)) B d_X9_ask_41 q_in9 rfl (by decide) rfl (by decide) w_WaterOthers_55 rfl rfl ?_
      refine g_getN (ci := 4) (k := 2) B d_X9_ask_44 q_in4 rfl (by decide) rfl (by decide) w_WaterOthers_229 rfl rfl ?_
      obtain ⟨rfl, rfl⟩ := q_ps h
      exact g_iret B En d_X9_ask_47
    · refine g_aload_n B d_X9_ask_30 rfl rfl ?_
      refine g_get (ci := 9) (k := 7) (v := .ref (Z.1 80)) B d_X9_ask_31 q_in9 rfl (by decide) rfl (by decide) w_WaterOthers_55 rfl rfl ?_
      refine g_getN (ci := 4) (k := 1) B d_X9_ask_34 q_in4 rfl (by decide) rfl (by decide) w_WaterOthers_226 rfl rfl ?_
      refine g_goto (tgt := 47) B d_X9_ask_37 (by decide) ?_
      obtain ⟨rfl, rfl⟩ := q_ps h
      exact g_iret B En d_X9_ask_47
  · refine g_bipush (v := (-2)) B d_X9_ask_9 (by decide) ?_
    obtain ⟨rfl, rfl⟩ := q_ps h
    exact g_iret B En d_X9_ask_11

def f_X9_canBeginnerWin_10 (N : Nat)    : Nat → Int32 → Int32 → Int32 → Int32 → Option Int32
  | 0, _, _, _, _ => none
  | n + 1, x2, x3, x4, x5 =>
    if (100 : Int32) ≤ x5 then (if x4 = 0 then (some 1)
      else (some 0))
    else (if x3 ≤ 0 then (if x4 = 0 then (some 1)
        else (some 0))
      else (if ¬ x3 = 0 then if (q_rem x2 x3) = 0 then (if x4 = 0 ∨ x4 = 1 then some x4 else none)
        else (if (x2 / x3) ≤ 1 then (if x4 = 0 then (f_X9_canBeginnerWin_10 N n x3 (q_rem x2 x3) 1 (x5 + 1))
            else (f_X9_canBeginnerWin_10 N n x3 (q_rem x2 x3) 0 (x5 + 1)))
          else (if x4 = 0 ∨ x4 = 1 then some x4 else none)) else none))
def f_X9_canBeginnerWin (N : Nat) (a0 : Int32) (a1 : Int32) : Option Int32 :=
  f_X9_canBeginnerWin_10 N N a0 a1 1 0
set_option maxRecDepth 20000 in
theorem t_X9_canBeginnerWin_10 {Z : q_Z} {Γ : q_C} {σ : q_S} {r : Int32} (B : q_B Z Γ prog_1_method_33_code "WaterOthers" 7 1) (En : q_E Z Γ (some .boolean) (some (.int r)) σ) (N : Nat)     : ∀ (n : Nat) (x2 : Int32) (x3 : Int32) (x4 : Int32) (x5 : Int32), f_X9_canBeginnerWin_10 N n x2 x3 x4 x5 = some r → q_G Z Γ 7 σ 10 [(2, .int x2), (3, .int x3), (4, .int x4), (5, .int x5)] [] := by
  intro n
  induction n with
  | zero =>
    intro x2 x3 x4 x5 h
    cases h
  | succ n ih =>
    intro x2 x3 x4 x5 h
    unfold f_X9_canBeginnerWin_10 at h
    refine g_iload B d_X9_canBeginnerWin_10 rfl ?_
    refine g_bipush (v := 100) B d_X9_canBeginnerWin_12 (by decide) ?_
    refine g_icmp_ge (tgt := 64) B d_X9_canBeginnerWin_14 (by decide) h (fun h => ?_) (fun h => ?_)
    · refine g_iload B d_X9_canBeginnerWin_64 rfl ?_
      refine g_if_ne (tgt := 73) B d_X9_canBeginnerWin_66 (by decide) h (fun h => ?_) (fun h => ?_)
      · refine g_iconst (v := 0) B d_X9_canBeginnerWin_73 (by decide) ?_
        obtain rfl := q_po h
        exact g_zret B En d_X9_canBeginnerWin_74 (by decide)
      · refine g_iconst (v := 1) B d_X9_canBeginnerWin_69 (by decide) ?_
        refine g_goto (tgt := 74) B d_X9_canBeginnerWin_70 (by decide) ?_
        obtain rfl := q_po h
        exact g_zret B En d_X9_canBeginnerWin_74 (by decide)
    · refine g_iload_n B d_X9_canBeginnerWin_17 rfl rfl ?_
      refine g_if_le (tgt := 64) B d_X9_canBeginnerWin_18 (by decide) h (fun h => ?_) (fun h => ?_)
      · refine g_iload B d_X9_canBeginnerWin_64 rfl ?_
        refine g_if_ne (tgt := 73) B d_X9_canBeginnerWin_66 (by decide) h (fun h => ?_) (fun h => ?_)
        · refine g_iconst (v := 0) B d_X9_canBeginnerWin_73 (by decide) ?_
          obtain rfl := q_po h
          exact g_zret B En d_X9_canBeginnerWin_74 (by decide)
        · refine g_iconst (v := 1) B d_X9_canBeginnerWin_69 (by decide) ?_
          refine g_goto (tgt := 74) B d_X9_canBeginnerWin_70 (by decide) ?_
          obtain rfl := q_po h
          exact g_zret B En d_X9_canBeginnerWin_74 (by decide)
      · refine g_iload_n B d_X9_canBeginnerWin_21 rfl rfl ?_
        refine g_iload_n B d_X9_canBeginnerWin_22 rfl rfl ?_
        obtain ⟨h23, h⟩ := q_chk h
        refine g_irem B d_X9_canBeginnerWin_23 h23 ?_
        refine g_istore B d_X9_canBeginnerWin_24 (by decide) ?_
        refine g_iload B d_X9_canBeginnerWin_26 rfl ?_
        refine g_if_eq (tgt := 38) B d_X9_canBeginnerWin_28 (by decide) h (fun h => ?_) (fun h => ?_)
        · refine g_iload B d_X9_canBeginnerWin_38 rfl ?_
          obtain ⟨h40, h⟩ := q_chk h
          obtain rfl := q_po h
          exact g_zret B En d_X9_canBeginnerWin_40 (q_bn h40).1
        · refine g_iload_n B d_X9_canBeginnerWin_31 rfl rfl ?_
          refine g_iload_n B d_X9_canBeginnerWin_32 rfl rfl ?_
          refine g_idiv B d_X9_canBeginnerWin_33 h23 ?_
          refine g_iconst (v := 1) B d_X9_canBeginnerWin_34 (by decide) ?_
          refine g_icmp_le (tgt := 41) B d_X9_canBeginnerWin_35 (by decide) h (fun h => ?_) (fun h => ?_)
          · refine g_iload_n B d_X9_canBeginnerWin_41 rfl rfl ?_
            refine g_istore_n B d_X9_canBeginnerWin_42 rfl (by decide) ?_
            refine g_iload B d_X9_canBeginnerWin_43 rfl ?_
            refine g_istore_n B d_X9_canBeginnerWin_45 rfl (by decide) ?_
            refine g_iload B d_X9_canBeginnerWin_46 rfl ?_
            refine g_if_ne (tgt := 55) B d_X9_canBeginnerWin_48 (by decide) h (fun h => ?_) (fun h => ?_)
            · refine g_iconst (v := 0) B d_X9_canBeginnerWin_55 (by decide) ?_
              refine g_istore B d_X9_canBeginnerWin_56 (by decide) ?_
              refine g_iinc (v := (x5 + 1)) B d_X9_canBeginnerWin_58 rfl rfl (by decide) ?_
              refine g_goto (tgt := 10) B d_X9_canBeginnerWin_61 (by decide) ?_
              exact g_cut rfl (ih x3 (q_rem x2 x3) 0 (x5 + 1) h)
            · refine g_iconst (v := 1) B d_X9_canBeginnerWin_51 (by decide) ?_
              refine g_goto (tgt := 56) B d_X9_canBeginnerWin_52 (by decide) ?_
              refine g_istore B d_X9_canBeginnerWin_56 (by decide) ?_
              refine g_iinc (v := (x5 + 1)) B d_X9_canBeginnerWin_58 rfl rfl (by decide) ?_
              refine g_goto (tgt := 10) B d_X9_canBeginnerWin_61 (by decide) ?_
              exact g_cut rfl (ih x3 (q_rem x2 x3) 1 (x5 + 1) h)
          · refine g_iload B d_X9_canBeginnerWin_38 rfl ?_
            obtain ⟨h40, h⟩ := q_chk h
            obtain rfl := q_po h
            exact g_zret B En d_X9_canBeginnerWin_40 (q_bn h40).1
set_option maxRecDepth 20000 in
theorem t_X9_canBeginnerWin {Z : q_Z} {l : Launch} (N : Nat) (a0 : Int32) (a1 : Int32)  (σ : q_S) {r : Int32} (h : f_X9_canBeginnerWin N a0 a1 = some r) : q_M Z l y_X9_canBeginnerWin prog_1_method_33_code 7 (some .boolean) 1 [.int a0, .int a1] σ (some (.int r)) σ := by
  refine q_met (by decide +kernel) (Nat.le_of_ble_eq_true rfl) (fun Γ hΓ B En => ?_)
  unfold f_X9_canBeginnerWin at h
  refine g_cut (lv' := [(0, .int a0), (1, .int a1)]) rfl ?_
  refine g_iload_n B d_X9_canBeginnerWin_0 rfl rfl ?_
  refine g_istore_n B d_X9_canBeginnerWin_1 rfl (by decide) ?_
  refine g_iload_n B d_X9_canBeginnerWin_2 rfl rfl ?_
  refine g_istore_n B d_X9_canBeginnerWin_3 rfl (by decide) ?_
  refine g_iconst (v := 1) B d_X9_canBeginnerWin_4 (by decide) ?_
  refine g_istore B d_X9_canBeginnerWin_5 (by decide) ?_
  refine g_iconst (v := 0) B d_X9_canBeginnerWin_7 (by decide) ?_
  refine g_istore B d_X9_canBeginnerWin_8 (by decide) ?_
  exact g_cut rfl (t_X9_canBeginnerWin_10 B En N N a0 a1 1 0 h)

theorem w_WaterOthers_289 : Cond.methodLink "WaterOthers" 289 y_X9_canBeginnerWin ∈ q_tbl := q_mem 611 (by decide +kernel) (by decide +kernel)
def f_X9_winningTimes (N : Nat) (a0 : Int32) (a1 : Int32) : Option Int32 :=
  if (1 : Int32) ≤ a1 then (if ¬ a1 = 0 then if (q_rem a0 a1) = 0 then (some (a0 / a1))
    else ((f_X9_canBeginnerWin N a1 (q_rem a0 a1)).bind fun z21 =>
      if z21 = 0 then (some (a0 / a1))
      else (some ((a0 / a1) - 1))) else none)
  else (some 0)
set_option maxRecDepth 20000 in
theorem t_X9_winningTimes {Z : q_Z} {l : Launch} (N : Nat) (a0 : Int32) (a1 : Int32)  (σ : q_S) {r : Int32} (h : f_X9_winningTimes N a0 a1 = some r) : q_M Z l y_X9_winningTimes prog_1_method_32_code 4 (some .int) 2 [.int a0, .int a1] σ (some (.int r)) σ := by
  refine q_met (by decide +kernel) (Nat.le_of_ble_eq_true rfl) (fun Γ hΓ B En => ?_)
  unfold f_X9_winningTimes at h
  refine g_cut (lv' := [(0, .int a0), (1, .int a1)]) rfl ?_
  refine g_iload_n B d_X9_winningTimes_0 rfl rfl ?_
  refine g_iconst (v := 1) B d_X9_winningTimes_1 (by decide) ?_
  refine g_icmp_ge (tgt := 7) B d_X9_winningTimes_2 (by decide) h (fun h => ?_) (fun h => ?_)
  · refine g_iload_n B d_X9_winningTimes_7 rfl rfl ?_
    refine g_iload_n B d_X9_winningTimes_8 rfl rfl ?_
    obtain ⟨h9, h⟩ := q_chk h
    refine g_idiv B d_X9_winningTimes_9 h9 ?_
    refine g_istore_n B d_X9_winningTimes_10 rfl (by decide) ?_
    refine g_iload_n B d_X9_winningTimes_11 rfl rfl ?_
    refine g_iload_n B d_X9_winningTimes_12 rfl rfl ?_
    refine g_irem B d_X9_winningTimes_13 h9 ?_
    refine g_istore_n B d_X9_winningTimes_14 rfl (by decide) ?_
    refine g_iload_n B d_X9_winningTimes_15 rfl rfl ?_
    refine g_if_eq (tgt := 27) B d_X9_winningTimes_16 (by decide) h (fun h => ?_) (fun h => ?_)
    · refine g_iload_n B d_X9_winningTimes_27 rfl rfl ?_
      obtain rfl := q_po h
      exact g_iret B En d_X9_winningTimes_28
    · refine g_iload_n B d_X9_winningTimes_19 rfl rfl ?_
      refine g_iload_n B d_X9_winningTimes_20 rfl rfl ?_
      obtain ⟨z21, g21, h⟩ := q_bind h
      refine g_callS (As := [.int a1, .int (q_rem a0 a1)]) (rest := []) B d_X9_winningTimes_21 (t_X9_canBeginnerWin N a1 (q_rem a0 a1) σ g21) m_X9_canBeginnerWin w_WaterOthers_289 rfl rfl (Nat.le_of_ble_eq_true rfl) (by omega) (by decide) ?_
      refine g_if_ne (tgt := 29) B d_X9_winningTimes_24 (by decide) h (fun h => ?_) (fun h => ?_)
      · refine g_iload_n B d_X9_winningTimes_29 rfl rfl ?_
        refine g_iconst (v := 1) B d_X9_winningTimes_30 (by decide) ?_
        refine g_isub B d_X9_winningTimes_31 ?_
        obtain rfl := q_po h
        exact g_iret B En d_X9_winningTimes_32
      · refine g_iload_n B d_X9_winningTimes_27 rfl rfl ?_
        obtain rfl := q_po h
        exact g_iret B En d_X9_winningTimes_28
  · refine g_iconst (v := 0) B d_X9_winningTimes_5 (by decide) ?_
    obtain rfl := q_po h
    exact g_iret B En d_X9_winningTimes_6

theorem w_WaterOthers_232 : Cond.methodLink "WaterOthers" 232 y_J9_max_7cf53 ∈ q_tbl := q_mem 604 (by decide +kernel) (by decide +kernel)
theorem w_WaterOthers_238 : Cond.methodLink "WaterOthers" 238 y_J9_min_7cf53 ∈ q_tbl := q_mem 605 (by decide +kernel) (by decide +kernel)
theorem w_WaterOthers_241 : Cond.methodLink "WaterOthers" 241 y_X9_winningTimes ∈ q_tbl := q_mem 608 (by decide +kernel) (by decide +kernel)
def f_X9_lengths (N : Nat) (a0 : Int32) (a1 : Int32) (a2 : Int32) : Option Int32 :=
  if (f_X9_isWithin a0 0 99) = 0 then (some (-2))
  else (if (f_X9_isWithin a1 0 99) = 0 then (some (-2))
    else (if (f_X9_isWithin a2 0 1) = 0 then (some (-2))
      else ((f_X9_winningTimes N (f_J9_max_7cf53 a0 a1) (f_J9_min_7cf53 a0 a1)).bind fun z42 =>
        if a2 = 0 then (if z42 ≤ 0 then (some 0)
          else (some 1))
        else (if z42 ≤ 0 then (some (-6))
          else (some z42)))))
set_option maxRecDepth 20000 in
theorem t_X9_lengths {Z : q_Z} {l : Launch} (N : Nat) (a0 : Int32) (a1 : Int32) (a2 : Int32)  (σ : q_S) {r : Int32} (h : f_X9_lengths N a0 a1 a2 = some r) : q_M Z l y_X9_lengths prog_1_method_21_code 5 (some .int) 3 [.ref (Z.1 68), .int a0, .int a1, .int a2] σ (some (.int r)) σ := by
  refine q_met (by decide +kernel) (Nat.le_of_ble_eq_true rfl) (fun Γ hΓ B En => ?_)
  unfold f_X9_lengths at h
  refine g_cut (lv' := [(0, .ref (Z.1 68)), (1, .int a0), (2, .int a1), (3, .int a2)]) rfl ?_
  refine g_iload_n B d_X9_lengths_0 rfl rfl ?_
  refine g_iconst (v := 0) B d_X9_lengths_1 (by decide) ?_
  refine g_bipush (v := 99) B d_X9_lengths_2 (by decide) ?_
  refine g_callS (As := [.int a0, .int 0, .int 99]) (rest := []) B d_X9_lengths_4 (t_X9_isWithin a0 0 99 σ rfl) m_X9_isWithin w_WaterOthers_74 rfl rfl (Nat.le_of_ble_eq_true rfl) (by omega) (by decide) ?_
  refine g_if_eq (tgt := 29) B d_X9_lengths_7 (by decide) h (fun h => ?_) (fun h => ?_)
  · refine g_bipush (v := (-2)) B d_X9_lengths_29 (by decide) ?_
    obtain rfl := q_po h
    exact g_iret B En d_X9_lengths_31
  · refine g_iload_n B d_X9_lengths_10 rfl rfl ?_
    refine g_iconst (v := 0) B d_X9_lengths_11 (by decide) ?_
    refine g_bipush (v := 99) B d_X9_lengths_12 (by decide) ?_
    refine g_callS (As := [.int a1, .int 0, .int 99]) (rest := []) B d_X9_lengths_14 (t_X9_isWithin a1 0 99 σ rfl) m_X9_isWithin w_WaterOthers_74 rfl rfl (Nat.le_of_ble_eq_true rfl) (by omega) (by decide) ?_
    refine g_if_eq (tgt := 29) B d_X9_lengths_17 (by decide) h (fun h => ?_) (fun h => ?_)
    · refine g_bipush (v := (-2)) B d_X9_lengths_29 (by decide) ?_
      obtain rfl := q_po h
      exact g_iret B En d_X9_lengths_31
    · refine g_iload_n B d_X9_lengths_20 rfl rfl ?_
      refine g_iconst (v := 0) B d_X9_lengths_21 (by decide) ?_
      refine g_iconst (v := 1) B d_X9_lengths_22 (by decide) ?_
      refine g_callS (As := [.int a2, .int 0, .int 1]) (rest := []) B d_X9_lengths_23 (t_X9_isWithin a2 0 1 σ rfl) m_X9_isWithin w_WaterOthers_74 rfl rfl (Nat.le_of_ble_eq_true rfl) (by omega) (by decide) ?_
      refine g_if_ne (tgt := 32) B d_X9_lengths_26 (by decide) h (fun h => ?_) (fun h => ?_)
      · refine g_iload_n B d_X9_lengths_32 rfl rfl ?_
        refine g_iload_n B d_X9_lengths_33 rfl rfl ?_
        refine g_callS (As := [.int a0, .int a1]) (rest := []) B d_X9_lengths_34 (t_J9_max_7cf53 a0 a1 σ rfl) m_J9_max_7cf53 w_WaterOthers_232 rfl rfl (Nat.le_of_ble_eq_true rfl) (by omega) (by decide) ?_
        refine g_iload_n B d_X9_lengths_37 rfl rfl ?_
        refine g_iload_n B d_X9_lengths_38 rfl rfl ?_
        refine g_callS (As := [.int a0, .int a1]) (rest := [.int (f_J9_max_7cf53 a0 a1)]) B d_X9_lengths_39 (t_J9_min_7cf53 a0 a1 σ rfl) m_J9_min_7cf53 w_WaterOthers_238 rfl rfl (Nat.le_of_ble_eq_true rfl) (by omega) (by decide) ?_
        obtain ⟨z42, g42, h⟩ := q_bind h
        refine g_callS (As := [.int (f_J9_max_7cf53 a0 a1), .int (f_J9_min_7cf53 a0 a1)]) (rest := []) B d_X9_lengths_42 (t_X9_winningTimes N (f_J9_max_7cf53 a0 a1) (f_J9_min_7cf53 a0 a1) σ g42) m_X9_winningTimes w_WaterOthers_241 rfl rfl (Nat.le_of_ble_eq_true rfl) (by omega) (by decide) ?_
        refine g_istore B d_X9_lengths_45 (by decide) ?_
        refine g_iload_n B d_X9_lengths_47 rfl rfl ?_
        refine g_if_ne (tgt := 62) B d_X9_lengths_48 (by decide) h (fun h => ?_) (fun h => ?_)
        · refine g_iload B d_X9_lengths_62 rfl ?_
          refine g_if_le (tgt := 72) B d_X9_lengths_64 (by decide) h (fun h => ?_) (fun h => ?_)
          · refine g_bipush (v := (-6)) B d_X9_lengths_72 (by decide) ?_
            obtain rfl := q_po h
            exact g_iret B En d_X9_lengths_74
          · refine g_iload B d_X9_lengths_67 rfl ?_
            refine g_goto (tgt := 74) B d_X9_lengths_69 (by decide) ?_
            obtain rfl := q_po h
            exact g_iret B En d_X9_lengths_74
        · refine g_iload B d_X9_lengths_51 rfl ?_
          refine g_if_le (tgt := 60) B d_X9_lengths_53 (by decide) h (fun h => ?_) (fun h => ?_)
          · refine g_iconst (v := 0) B d_X9_lengths_60 (by decide) ?_
            obtain rfl := q_po h
            exact g_iret B En d_X9_lengths_61
          · refine g_iconst (v := 1) B d_X9_lengths_56 (by decide) ?_
            refine g_goto (tgt := 61) B d_X9_lengths_57 (by decide) ?_
            obtain rfl := q_po h
            exact g_iret B En d_X9_lengths_61
      · refine g_bipush (v := (-2)) B d_X9_lengths_29 (by decide) ?_
        obtain rfl := q_po h
        exact g_iret B En d_X9_lengths_31

def f_X9_commonDivisor_9 (N : Nat)    : Nat → Int64 → Int64 → Int32 → Option Int64
  | 0, _, _, _ => none
  | n + 1, x4, x6, x8 =>
    if (200 : Int32) ≤ x8 then (some x4)
    else (if (lg_cmp x6 0) = 0 then (some x4)
      else (if ¬ x6 = 0 then f_X9_commonDivisor_9 N n x6 (q_reml x4 x6) (x8 + 1) else none))
def f_X9_commonDivisor (N : Nat) (a0 : Int64) (a1 : Int64) : Option Int64 :=
  f_X9_commonDivisor_9 N N a0 a1 0
set_option maxRecDepth 20000 in
theorem t_X9_commonDivisor_9 {Z : q_Z} {Γ : q_C} {σ : q_S} {r : Int64} (B : q_B Z Γ prog_1_method_34_code "WaterOthers" 11 1) (En : q_E Z Γ (some .long) (some (.long r)) σ) (N : Nat)     : ∀ (n : Nat) (x4 : Int64) (x6 : Int64) (x8 : Int32), f_X9_commonDivisor_9 N n x4 x6 x8 = some r → q_G Z Γ 11 σ 9 [(4, .long x4), (6, .long x6), (8, .int x8)] [] := by
  intro n
  induction n with
  | zero =>
    intro x4 x6 x8 h
    cases h
  | succ n ih =>
    intro x4 x6 x8 h
    unfold f_X9_commonDivisor_9 at h
    refine g_iload B d_X9_commonDivisor_9 rfl ?_
    refine g_sipush (v := 200) B d_X9_commonDivisor_11 (by decide) ?_
    refine g_icmp_ge (tgt := 45) B d_X9_commonDivisor_14 (by decide) h (fun h => ?_) (fun h => ?_)
    · refine g_lload B d_X9_commonDivisor_45 rfl ?_
      obtain rfl := q_po h
      exact g_lret B En d_X9_commonDivisor_47
    · refine g_lload B d_X9_commonDivisor_17 rfl ?_
      refine g_lconst (v := 0) B d_X9_commonDivisor_19 (by decide) ?_
      refine g_lcmp B d_X9_commonDivisor_20 ?_
      refine g_if_eq (tgt := 45) B d_X9_commonDivisor_21 (by decide) h (fun h => ?_) (fun h => ?_)
      · refine g_lload B d_X9_commonDivisor_45 rfl ?_
        obtain rfl := q_po h
        exact g_lret B En d_X9_commonDivisor_47
      · refine g_lload B d_X9_commonDivisor_24 rfl ?_
        refine g_lload B d_X9_commonDivisor_26 rfl ?_
        obtain ⟨h28, h⟩ := q_chk h
        refine g_lrem B d_X9_commonDivisor_28 h28 ?_
        refine g_lstore B d_X9_commonDivisor_29 (by decide) ?_
        refine g_lload B d_X9_commonDivisor_31 rfl ?_
        refine g_lstore B d_X9_commonDivisor_33 (by decide) ?_
        refine g_lload B d_X9_commonDivisor_35 rfl ?_
        refine g_lstore B d_X9_commonDivisor_37 (by decide) ?_
        refine g_iinc (v := (x8 + 1)) B d_X9_commonDivisor_39 rfl rfl (by decide) ?_
        refine g_goto (tgt := 9) B d_X9_commonDivisor_42 (by decide) ?_
        exact g_cut rfl (ih x6 (q_reml x4 x6) (x8 + 1) h)
set_option maxRecDepth 20000 in
theorem t_X9_commonDivisor {Z : q_Z} {l : Launch} (N : Nat) (a0 : Int64) (a1 : Int64)  (σ : q_S) {r : Int64} (h : f_X9_commonDivisor N a0 a1 = some r) : q_M Z l y_X9_commonDivisor prog_1_method_34_code 11 (some .long) 1 [.long a0, .long a1] σ (some (.long r)) σ := by
  refine q_met (by decide +kernel) (Nat.le_of_ble_eq_true rfl) (fun Γ hΓ B En => ?_)
  unfold f_X9_commonDivisor at h
  refine g_cut (lv' := [(0, .long a0), (2, .long a1)]) rfl ?_
  refine g_lload_n B d_X9_commonDivisor_0 rfl rfl ?_
  refine g_lstore B d_X9_commonDivisor_1 (by decide) ?_
  refine g_lload_n B d_X9_commonDivisor_3 rfl rfl ?_
  refine g_lstore B d_X9_commonDivisor_4 (by decide) ?_
  refine g_iconst (v := 0) B d_X9_commonDivisor_6 (by decide) ?_
  refine g_istore B d_X9_commonDivisor_7 (by decide) ?_
  exact g_cut rfl (t_X9_commonDivisor_9 B En N N a0 a1 0 h)

theorem k_w_WaterOthers_244 : Cond.constantLong "WaterOthers" 244 (-1000000000000000002) ∈ q_tbl := q_mem 618 (by decide +kernel) (by decide +kernel)
theorem w_WaterOthers_246 : Cond.methodLink "WaterOthers" 246 y_X1_withRow ∈ q_tbl := q_mem 619 (by decide +kernel) (by decide +kernel)
theorem w_WaterOthers_250 : Cond.methodLink "WaterOthers" 250 y_X1_longestRows ∈ q_tbl := q_mem 638 (by decide +kernel) (by decide +kernel)
theorem w_WaterOthers_254 : Cond.methodLink "WaterOthers" 254 y_X1_tenTo ∈ q_tbl := q_mem 643 (by decide +kernel) (by decide +kernel)
theorem w_WaterOthers_258 : Cond.methodLink "WaterOthers" 258 y_X9_commonDivisor ∈ q_tbl := q_mem 644 (by decide +kernel) (by decide +kernel)
theorem w_WaterOthers_62 : Cond.fieldLink "WaterOthers" 62 "WaterOthers" "calmRows" "LWaterOthers$CalmRows;" ∈ q_tbl := q_mem 262 (by decide +kernel) (by decide +kernel)
def f_X9_calm_93 (N : Nat)  (x1 : Int32) (x5 : Int32) (t0 : Int64) (σ : q_S) : Option (Int64 × q_S) :=
  (f_X1_tenTo N x1).bind fun z96 =>
  (f_X9_commonDivisor N t0 z96).bind fun z105 =>
  if (0 : Int32) ≤ (lg_cmp z105 1) then (if x5 = 0 then (if ¬ z105 = 0 then some ((t0 / z105), σ) else none)
    else (if ¬ z105 = 0 then some ((z96 / z105), σ) else none))
  else (if x5 = 0 then (some (t0, σ))
    else (some (z96, σ)))
def f_X9_calm_55 (N : Nat)  (x1 : Int32) (x2 : Int32) (x3 : Int32) (x4 : Int32) (x5 : Int32) (t0 : Int32) (σ : q_S) : Option (Int64 × q_S) :=
  if t0 = 0 then (some ((-1000000000000000002), σ))
  else (if x4 = 0 then ((f_X1_withRow N x1 x2 x3 σ).bind fun z78 =>
      f_X9_calm_93 N x1 x5 z78.1 z78.2)
    else ((f_X1_longestRows N x1 x2 σ).bind fun z90 =>
      f_X9_calm_93 N x1 x5 z90.1 z90.2))
def f_X9_calm (N : Nat) (a0 : Int32) (a1 : Int32) (a2 : Int32) (a3 : Int32) (a4 : Int32) (σ : q_S) : Option (Int64 × q_S) :=
  if (f_X9_isWithin a0 0 15) = 0 then (f_X9_calm_55 N a0 a1 a2 a3 a4 0 σ)
  else (if (f_X9_isWithin a1 0 10) = 0 then (f_X9_calm_55 N a0 a1 a2 a3 a4 0 σ)
    else (if (f_X9_isWithin a2 0 15) = 0 then (f_X9_calm_55 N a0 a1 a2 a3 a4 0 σ)
      else (if (f_X9_isWithin a3 0 1) = 0 then (f_X9_calm_55 N a0 a1 a2 a3 a4 0 σ)
        else (if (f_X9_isWithin a4 0 1) = 0 then (f_X9_calm_55 N a0 a1 a2 a3 a4 0 σ)
          else (f_X9_calm_55 N a0 a1 a2 a3 a4 1 σ)))))
set_option maxRecDepth 20000 in
theorem t_X9_calm_93 {Z : q_Z} {Γ : q_C} {r : Int64} {σ' : q_S} (B : q_B Z Γ prog_1_method_22_code "WaterOthers" 13 5) (En : q_E Z Γ (some .long) (some (.long r)) σ') (N : Nat)  (x1 : Int32) (x5 : Int32) (t0 : Int64)  (σ : q_S)  (h : f_X9_calm_93 N x1 x5 t0 σ = some (r, σ')) : q_G Z Γ 13 σ 93 [(1, .int x1), (5, .int x5)] [.long t0] := by
  unfold f_X9_calm_93 at h
  refine g_lstore B d_X9_calm_93 (by decide) ?_
  refine g_iload_n B d_X9_calm_95 rfl rfl ?_
  obtain ⟨z96, g96, h⟩ := q_bind h
  refine g_callS (As := [.int x1]) (rest := []) B d_X9_calm_96 (t_X1_tenTo N x1 σ g96) m_X1_tenTo w_WaterOthers_254 rfl rfl (Nat.le_of_ble_eq_true rfl) (by omega) (by decide) ?_
  refine g_lstore B d_X9_calm_99 (by decide) ?_
  refine g_lload B d_X9_calm_101 rfl ?_
  refine g_lload B d_X9_calm_103 rfl ?_
  obtain ⟨z105, g105, h⟩ := q_bind h
  refine g_callS (As := [.long t0, .long z96]) (rest := []) B d_X9_calm_105 (t_X9_commonDivisor N t0 z96 σ g105) m_X9_commonDivisor w_WaterOthers_258 rfl rfl (Nat.le_of_ble_eq_true rfl) (by omega) (by decide) ?_
  refine g_lstore B d_X9_calm_108 (by decide) ?_
  refine g_lload B d_X9_calm_110 rfl ?_
  refine g_lconst (v := 1) B d_X9_calm_112 (by decide) ?_
  refine g_lcmp B d_X9_calm_113 ?_
  refine g_if_ge (tgt := 130) B d_X9_calm_114 (by decide) h (fun h => ?_) (fun h => ?_)
  · refine g_iload B d_X9_calm_130 rfl ?_
    refine g_if_ne (tgt := 143) B d_X9_calm_132 (by decide) h (fun h => ?_) (fun h => ?_)
    · refine g_lload B d_X9_calm_143 rfl ?_
      refine g_lload B d_X9_calm_145 rfl ?_
      obtain ⟨h147, h⟩ := q_chk h
      refine g_ldiv B d_X9_calm_147 h147 ?_
      obtain ⟨rfl, rfl⟩ := q_ps h
      exact g_lret B En d_X9_calm_148
    · refine g_lload B d_X9_calm_135 rfl ?_
      refine g_lload B d_X9_calm_137 rfl ?_
      obtain ⟨h139, h⟩ := q_chk h
      refine g_ldiv B d_X9_calm_139 h139 ?_
      refine g_goto (tgt := 148) B d_X9_calm_140 (by decide) ?_
      obtain ⟨rfl, rfl⟩ := q_ps h
      exact g_lret B En d_X9_calm_148
  · refine g_iload B d_X9_calm_117 rfl ?_
    refine g_if_ne (tgt := 127) B d_X9_calm_119 (by decide) h (fun h => ?_) (fun h => ?_)
    · refine g_lload B d_X9_calm_127 rfl ?_
      obtain ⟨rfl, rfl⟩ := q_ps h
      exact g_lret B En d_X9_calm_129
    · refine g_lload B d_X9_calm_122 rfl ?_
      refine g_goto (tgt := 129) B d_X9_calm_124 (by decide) ?_
      obtain ⟨rfl, rfl⟩ := q_ps h
      exact g_lret B En d_X9_calm_129
set_option maxRecDepth 20000 in
theorem t_X9_calm_55 {Z : q_Z} {Γ : q_C} {r : Int64} {σ' : q_S} (B : q_B Z Γ prog_1_method_22_code "WaterOthers" 13 5) (En : q_E Z Γ (some .long) (some (.long r)) σ') (N : Nat)  (x1 : Int32) (x2 : Int32) (x3 : Int32) (x4 : Int32) (x5 : Int32) (t0 : Int32)  (σ : q_S)  (h : f_X9_calm_55 N x1 x2 x3 x4 x5 t0 σ = some (r, σ')) : q_G Z Γ 13 σ 55 [(0, .ref (Z.1 68)), (1, .int x1), (2, .int x2), (3, .int x3), (4, .int x4), (5, .int x5)] [.int t0] := by
  unfold f_X9_calm_55 at h
  refine g_istore B d_X9_calm_55 (by decide) ?_
  refine g_iload B d_X9_calm_57 rfl ?_
  refine g_if_ne (tgt := 66) B d_X9_calm_59 (by decide) h (fun h => ?_) (fun h => ?_)
  · refine g_iload B d_X9_calm_66 rfl ?_
    refine g_if_ne (tgt := 84) B d_X9_calm_68 (by decide) h (fun h => ?_) (fun h => ?_)
    · refine g_aload_n B d_X9_calm_84 rfl rfl ?_
      refine g_get (ci := 9) (k := 8) (v := .ref (Z.1 82)) B d_X9_calm_85 q_in9 rfl (by decide) rfl (by decide) w_WaterOthers_62 rfl rfl ?_
      refine g_iload_n B d_X9_calm_88 rfl rfl ?_
      refine g_iload_n B d_X9_calm_89 rfl rfl ?_
      obtain ⟨z90, g90, h⟩ := q_bind h
      refine g_callV (p0 := 82) (ci := 1) (As := [.int x1, .int x2]) (rest := []) B d_X9_calm_90 (t_X1_longestRows N x1 x2 σ g90) m_X1_longestRows w_WaterOthers_250 (by decide) rfl rfl rfl rfl (Nat.le_of_ble_eq_true rfl) (by omega) (by decide) ?_
      exact g_cut rfl (t_X9_calm_93 B En N x1 x5 z90.1 z90.2 h)
    · refine g_aload_n B d_X9_calm_71 rfl rfl ?_
      refine g_get (ci := 9) (k := 8) (v := .ref (Z.1 82)) B d_X9_calm_72 q_in9 rfl (by decide) rfl (by decide) w_WaterOthers_62 rfl rfl ?_
      refine g_iload_n B d_X9_calm_75 rfl rfl ?_
      refine g_iload_n B d_X9_calm_76 rfl rfl ?_
      refine g_iload_n B d_X9_calm_77 rfl rfl ?_
      obtain ⟨z78, g78, h⟩ := q_bind h
      refine g_callV (p0 := 82) (ci := 1) (As := [.int x1, .int x2, .int x3]) (rest := []) B d_X9_calm_78 (t_X1_withRow N x1 x2 x3 σ g78) m_X1_withRow w_WaterOthers_246 (by decide) rfl rfl rfl rfl (Nat.le_of_ble_eq_true rfl) (by omega) (by decide) ?_
      refine g_goto (tgt := 93) B d_X9_calm_81 (by decide) ?_
      exact g_cut rfl (t_X9_calm_93 B En N x1 x5 z78.1 z78.2 h)
  · refine g_ldc2 (v := (-1000000000000000002)) B d_X9_calm_62 k_w_WaterOthers_244 ?_
    obtain ⟨rfl, rfl⟩ := q_ps h
    exact g_lret B En d_X9_calm_65
set_option maxRecDepth 20000 in
theorem t_X9_calm {Z : q_Z} {l : Launch} (N : Nat) (a0 : Int32) (a1 : Int32) (a2 : Int32) (a3 : Int32) (a4 : Int32)  (σ : q_S) {r : Int64} {σ' : q_S} (h : f_X9_calm N a0 a1 a2 a3 a4 σ = some (r, σ')) : q_M Z l y_X9_calm prog_1_method_22_code 13 (some .long) 5 [.ref (Z.1 68), .int a0, .int a1, .int a2, .int a3, .int a4] σ (some (.long r)) σ' := by
  refine q_met (by decide +kernel) (Nat.le_of_ble_eq_true rfl) (fun Γ hΓ B En => ?_)
  unfold f_X9_calm at h
  refine g_cut (lv' := [(0, .ref (Z.1 68)), (1, .int a0), (2, .int a1), (3, .int a2), (4, .int a3), (5, .int a4)]) rfl ?_
  refine g_iload_n B d_X9_calm_0 rfl rfl ?_
  refine g_iconst (v := 0) B d_X9_calm_1 (by decide) ?_
  refine g_bipush (v := 15) B d_X9_calm_2 (by decide) ?_
  refine g_callS (As := [.int a0, .int 0, .int 15]) (rest := []) B d_X9_calm_4 (t_X9_isWithin a0 0 15 σ rfl) m_X9_isWithin w_WaterOthers_74 rfl rfl (Nat.le_of_ble_eq_true rfl) (by omega) (by decide) ?_
  refine g_if_eq (tgt := 54) B d_X9_calm_7 (by decide) h (fun h => ?_) (fun h => ?_)
  · refine g_iconst (v := 0) B d_X9_calm_54 (by decide) ?_
    exact g_cut rfl (t_X9_calm_55 B En N a0 a1 a2 a3 a4 0 σ h)
  · refine g_iload_n B d_X9_calm_10 rfl rfl ?_
    refine g_iconst (v := 0) B d_X9_calm_11 (by decide) ?_
    refine g_bipush (v := 10) B d_X9_calm_12 (by decide) ?_
    refine g_callS (As := [.int a1, .int 0, .int 10]) (rest := []) B d_X9_calm_14 (t_X9_isWithin a1 0 10 σ rfl) m_X9_isWithin w_WaterOthers_74 rfl rfl (Nat.le_of_ble_eq_true rfl) (by omega) (by decide) ?_
    refine g_if_eq (tgt := 54) B d_X9_calm_17 (by decide) h (fun h => ?_) (fun h => ?_)
    · refine g_iconst (v := 0) B d_X9_calm_54 (by decide) ?_
      exact g_cut rfl (t_X9_calm_55 B En N a0 a1 a2 a3 a4 0 σ h)
    · refine g_iload_n B d_X9_calm_20 rfl rfl ?_
      refine g_iconst (v := 0) B d_X9_calm_21 (by decide) ?_
      refine g_bipush (v := 15) B d_X9_calm_22 (by decide) ?_
      refine g_callS (As := [.int a2, .int 0, .int 15]) (rest := []) B d_X9_calm_24 (t_X9_isWithin a2 0 15 σ rfl) m_X9_isWithin w_WaterOthers_74 rfl rfl (Nat.le_of_ble_eq_true rfl) (by omega) (by decide) ?_
      refine g_if_eq (tgt := 54) B d_X9_calm_27 (by decide) h (fun h => ?_) (fun h => ?_)
      · refine g_iconst (v := 0) B d_X9_calm_54 (by decide) ?_
        exact g_cut rfl (t_X9_calm_55 B En N a0 a1 a2 a3 a4 0 σ h)
      · refine g_iload B d_X9_calm_30 rfl ?_
        refine g_iconst (v := 0) B d_X9_calm_32 (by decide) ?_
        refine g_iconst (v := 1) B d_X9_calm_33 (by decide) ?_
        refine g_callS (As := [.int a3, .int 0, .int 1]) (rest := []) B d_X9_calm_34 (t_X9_isWithin a3 0 1 σ rfl) m_X9_isWithin w_WaterOthers_74 rfl rfl (Nat.le_of_ble_eq_true rfl) (by omega) (by decide) ?_
        refine g_if_eq (tgt := 54) B d_X9_calm_37 (by decide) h (fun h => ?_) (fun h => ?_)
        · refine g_iconst (v := 0) B d_X9_calm_54 (by decide) ?_
          exact g_cut rfl (t_X9_calm_55 B En N a0 a1 a2 a3 a4 0 σ h)
        · refine g_iload B d_X9_calm_40 rfl ?_
          refine g_iconst (v := 0) B d_X9_calm_42 (by decide) ?_
          refine g_iconst (v := 1) B d_X9_calm_43 (by decide) ?_
          refine g_callS (As := [.int a4, .int 0, .int 1]) (rest := []) B d_X9_calm_44 (t_X9_isWithin a4 0 1 σ rfl) m_X9_isWithin w_WaterOthers_74 rfl rfl (Nat.le_of_ble_eq_true rfl) (by omega) (by decide) ?_
          refine g_if_eq (tgt := 54) B d_X9_calm_47 (by decide) h (fun h => ?_) (fun h => ?_)
          · refine g_iconst (v := 0) B d_X9_calm_54 (by decide) ?_
            exact g_cut rfl (t_X9_calm_55 B En N a0 a1 a2 a3 a4 0 σ h)
          · refine g_iconst (v := 1) B d_X9_calm_50 (by decide) ?_
            refine g_goto (tgt := 55) B d_X9_calm_51 (by decide) ?_
            exact g_cut rfl (t_X9_calm_55 B En N a0 a1 a2 a3 a4 1 σ h)

theorem k_w_WaterOthers_292 : Cond.constant "WaterOthers" 292 (65537) ∈ q_tbl := q_mem 654 (by decide +kernel) (by decide +kernel)
theorem w_WaterOthers_293 : Cond.fieldLink "WaterOthers" 293 "WaterOthers" "DRAWN" "[C" ∈ q_tbl := q_mem 655 (by decide +kernel) (by decide +kernel)
theorem w_WaterOthers_297 : Cond.methodLink "WaterOthers" 297 y_X3_whyNot ∈ q_tbl := q_mem 657 (by decide +kernel) (by decide +kernel)
theorem w_WaterOthers_301 : Cond.methodLink "WaterOthers" 301 y_X3_act ∈ q_tbl := q_mem 658 (by decide +kernel) (by decide +kernel)
def f_X9_drawYear_5 (N : Nat)  (p0 : Nat) (x2 : Int32)  : Nat → Int32 → Int32 → q_S → Option q_S
  | 0, _, _, _ => none
  | n + 1, x3, x4, σ =>
    if x2 ≤ x4 then (some σ)
    else (if ¬ ((((q_rem ((q_rem ((75 * x3) + 74) 65537) / 6) 8) &&& 7) : Int32) < 0 ∨ 8 ≤ (((q_rem ((q_rem ((75 * x3) + 74) 65537) / 6) 8) &&& 7) : Int32).toNatClampNeg) then (f_X3_whyNot N p0 (q_rem (q_rem ((75 * x3) + 74) 65537) 6) (q_s0 (((q_rem ((q_rem ((75 * x3) + 74) 65537) / 6) 8) &&& 7) : Int32).toNatClampNeg) σ).bind fun z50 =>
      if z50 = 0 then ((f_X3_act N p0 (q_rem (q_rem ((75 * x3) + 74) 65537) 6) (q_s0 (((q_rem ((q_rem ((75 * x3) + 74) 65537) / 6) 8) &&& 7) : Int32).toNatClampNeg) σ).bind fun z61 =>
        f_X9_drawYear_5 N p0 x2 n (q_rem ((75 * x3) + 74) 65537) (x4 + 1) z61)
      else (f_X9_drawYear_5 N p0 x2 n (q_rem ((75 * x3) + 74) 65537) (x4 + 1) σ) else none)
def f_X9_drawYear (N : Nat) (a0 : Nat) (a1 : Int32) (a2 : Int32) (σ : q_S) : Option q_S :=
  f_X9_drawYear_5 N a0 a2 N a1 0 σ
set_option maxRecDepth 20000 in
theorem t_X9_drawYear_5 {Z : q_Z} {Γ : q_C} {σ' : q_S} (B : q_B Z Γ prog_1_method_35_code "WaterOthers" 7 5) (En : q_E Z Γ none none σ') (N : Nat)  (p0 : Nat) (x2 : Int32)  (hp0 : q_R p0) : ∀ (n : Nat) (x3 : Int32) (x4 : Int32) (σ : q_S), f_X9_drawYear_5 N p0 x2 n x3 x4 σ = some σ' → q_G Z Γ 7 σ 5 [(0, .ref (Z.1 p0)), (2, .int x2), (3, .int x3), (4, .int x4)] [] := by
  intro n
  induction n with
  | zero =>
    intro x3 x4 σ h
    cases h
  | succ n ih =>
    intro x3 x4 σ h
    unfold f_X9_drawYear_5 at h
    refine g_iload B d_X9_drawYear_5 rfl ?_
    refine g_iload_n B d_X9_drawYear_7 rfl rfl ?_
    refine g_icmp_ge (tgt := 70) B d_X9_drawYear_8 (by decide) h (fun h => ?_) (fun h => ?_)
    · obtain rfl := q_po h
      exact g_vret B En d_X9_drawYear_70
    · refine g_bipush (v := 75) B d_X9_drawYear_11 (by decide) ?_
      refine g_iload_n B d_X9_drawYear_13 rfl rfl ?_
      refine g_imul B d_X9_drawYear_14 ?_
      refine g_bipush (v := 74) B d_X9_drawYear_15 (by decide) ?_
      refine g_iadd B d_X9_drawYear_17 ?_
      refine g_ldcw (v := 65537) B d_X9_drawYear_18 k_w_WaterOthers_292 ?_
      refine g_irem B d_X9_drawYear_21 (by decide) ?_
      refine g_istore_n B d_X9_drawYear_22 rfl (by decide) ?_
      refine g_iload_n B d_X9_drawYear_23 rfl rfl ?_
      refine g_bipush (v := 6) B d_X9_drawYear_24 (by decide) ?_
      refine g_irem B d_X9_drawYear_26 (by decide) ?_
      refine g_istore B d_X9_drawYear_27 (by decide) ?_
      refine g_gs0 B d_X9_drawYear_29 w_WaterOthers_293 ?_
      refine g_iload_n B d_X9_drawYear_32 rfl rfl ?_
      refine g_bipush (v := 6) B d_X9_drawYear_33 (by decide) ?_
      refine g_idiv B d_X9_drawYear_35 (by decide) ?_
      refine g_bipush (v := 8) B d_X9_drawYear_36 (by decide) ?_
      refine g_irem B d_X9_drawYear_38 (by decide) ?_
      refine g_bipush (v := 7) B d_X9_drawYear_39 (by decide) ?_
      refine g_iand B d_X9_drawYear_41 ?_
      obtain ⟨h42, h⟩ := q_chk h
      refine g_gt0 B d_X9_drawYear_42 h42 ?_
      refine g_istore B d_X9_drawYear_43 (by decide) ?_
      refine g_aload_n B d_X9_drawYear_45 rfl rfl ?_
      refine g_iload B d_X9_drawYear_46 rfl ?_
      refine g_iload B d_X9_drawYear_48 rfl ?_
      obtain ⟨z50, g50, h⟩ := q_bind h
      refine g_callV (p0 := p0) (ci := 3) (As := [.int (q_rem (q_rem ((75 * x3) + 74) 65537) 6), .int (q_s0 (((q_rem ((q_rem ((75 * x3) + 74) 65537) / 6) 8) &&& 7) : Int32).toNatClampNeg)]) (rest := []) B d_X9_drawYear_50 (t_X3_whyNot N p0 (q_rem (q_rem ((75 * x3) + 74) 65537) 6) (q_s0 (((q_rem ((q_rem ((75 * x3) + 74) 65537) / 6) 8) &&& 7) : Int32).toNatClampNeg) hp0 σ g50) m_X3_whyNot w_WaterOthers_297 (q_Rlt hp0) ((q_cR hp0) _ _) rfl rfl rfl (Nat.le_of_ble_eq_true rfl) (by omega) (by decide) ?_
      refine g_if_ne (tgt := 64) B d_X9_drawYear_53 (by decide) h (fun h => ?_) (fun h => ?_)
      · refine g_iinc (v := (x4 + 1)) B d_X9_drawYear_64 rfl rfl (by decide) ?_
        refine g_goto (tgt := 5) B d_X9_drawYear_67 (by decide) ?_
        exact g_cut rfl (ih (q_rem ((75 * x3) + 74) 65537) (x4 + 1) σ h)
      · refine g_aload_n B d_X9_drawYear_56 rfl rfl ?_
        refine g_iload B d_X9_drawYear_57 rfl ?_
        refine g_iload B d_X9_drawYear_59 rfl ?_
        obtain ⟨z61, g61, h⟩ := q_bind h
        refine g_callV (p0 := p0) (ci := 3) (As := [.int (q_rem (q_rem ((75 * x3) + 74) 65537) 6), .int (q_s0 (((q_rem ((q_rem ((75 * x3) + 74) 65537) / 6) 8) &&& 7) : Int32).toNatClampNeg)]) (rest := []) B d_X9_drawYear_61 (t_X3_act N p0 (q_rem (q_rem ((75 * x3) + 74) 65537) 6) (q_s0 (((q_rem ((q_rem ((75 * x3) + 74) 65537) / 6) 8) &&& 7) : Int32).toNatClampNeg) hp0 σ g61) m_X3_act w_WaterOthers_301 (q_Rlt hp0) ((q_cR hp0) _ _) rfl rfl rfl (Nat.le_of_ble_eq_true rfl) (by omega) (by decide) ?_
        refine g_iinc (v := (x4 + 1)) B d_X9_drawYear_64 rfl rfl (by decide) ?_
        refine g_goto (tgt := 5) B d_X9_drawYear_67 (by decide) ?_
        exact g_cut rfl (ih (q_rem ((75 * x3) + 74) 65537) (x4 + 1) z61 h)
set_option maxRecDepth 20000 in
theorem t_X9_drawYear {Z : q_Z} {l : Launch} (N : Nat) (a0 : Nat) (a1 : Int32) (a2 : Int32) (h0 : q_R a0) (σ : q_S) {σ' : q_S} (h : f_X9_drawYear N a0 a1 a2 σ = some σ') : q_M Z l y_X9_drawYear prog_1_method_35_code 7 none 5 [.ref (Z.1 a0), .int a1, .int a2] σ none σ' := by
  refine q_met (by decide +kernel) (Nat.le_of_ble_eq_true rfl) (fun Γ hΓ B En => ?_)
  unfold f_X9_drawYear at h
  refine g_cut (lv' := [(0, .ref (Z.1 a0)), (1, .int a1), (2, .int a2)]) rfl ?_
  refine g_iload_n B d_X9_drawYear_0 rfl rfl ?_
  refine g_istore_n B d_X9_drawYear_1 rfl (by decide) ?_
  refine g_iconst (v := 0) B d_X9_drawYear_2 (by decide) ?_
  refine g_istore B d_X9_drawYear_3 (by decide) ?_
  exact g_cut rfl (t_X9_drawYear_5 B En N a0 a2 h0 N a1 0 σ h)

theorem w_WaterOthers_262 : Cond.methodLink "WaterOthers" 262 y_X9_drawYear ∈ q_tbl := q_mem 651 (by decide +kernel) (by decide +kernel)
theorem w_WaterOthers_266 : Cond.methodLink "WaterOthers" 266 y_X3_cellSum ∈ q_tbl := q_mem 659 (by decide +kernel) (by decide +kernel)
def f_X9_year (N : Nat) (a0 : Int32) (a1 : Int32) (a2 : Int32) (σ : q_S) : Option (Int32 × q_S) :=
  if (f_X9_isWithin a0 0 9999) = 0 then (some ((-2), σ))
  else (if (f_X9_isWithin a1 1 99) = 0 then (some ((-2), σ))
    else (if (f_X9_isWithin a2 0 2) = 0 then (some ((-2), σ))
      else ((f_X3_copy N 17 0 σ).bind fun z48 =>
        (f_X9_drawYear N 17 a0 a1 z48).bind fun z55 =>
        if a2 = 0 then ((f_X3_cellSum N 17 z55).bind fun z86 =>
          some (z86, z55))
        else if a2 = 1 then ((f_X3_partedCount N 17 z55).bind fun z92 =>
            some (z92, z55))
        else (if (z55.1 17 2) = 0 then (some (0, z55))
            else (some (1, z55))))))
set_option maxRecDepth 20000 in
theorem t_X9_year {Z : q_Z} {l : Launch} (N : Nat) (a0 : Int32) (a1 : Int32) (a2 : Int32)  (σ : q_S) {r : Int32} {σ' : q_S} (h : f_X9_year N a0 a1 a2 σ = some (r, σ')) : q_M Z l y_X9_year prog_1_method_23_code 5 (some .int) 6 [.ref (Z.1 68), .int a0, .int a1, .int a2] σ (some (.int r)) σ' := by
  refine q_met (by decide +kernel) (Nat.le_of_ble_eq_true rfl) (fun Γ hΓ B En => ?_)
  unfold f_X9_year at h
  refine g_cut (lv' := [(0, .ref (Z.1 68)), (1, .int a0), (2, .int a1), (3, .int a2)]) rfl ?_
  refine g_iload_n B d_X9_year_0 rfl rfl ?_
  refine g_iconst (v := 0) B d_X9_year_1 (by decide) ?_
  refine g_sipush (v := 9999) B d_X9_year_2 (by decide) ?_
  refine g_callS (As := [.int a0, .int 0, .int 9999]) (rest := []) B d_X9_year_5 (t_X9_isWithin a0 0 9999 σ rfl) m_X9_isWithin w_WaterOthers_74 rfl rfl (Nat.le_of_ble_eq_true rfl) (by omega) (by decide) ?_
  refine g_if_eq (tgt := 30) B d_X9_year_8 (by decide) h (fun h => ?_) (fun h => ?_)
  · refine g_bipush (v := (-2)) B d_X9_year_30 (by decide) ?_
    obtain ⟨rfl, rfl⟩ := q_ps h
    exact g_iret B En d_X9_year_32
  · refine g_iload_n B d_X9_year_11 rfl rfl ?_
    refine g_iconst (v := 1) B d_X9_year_12 (by decide) ?_
    refine g_bipush (v := 99) B d_X9_year_13 (by decide) ?_
    refine g_callS (As := [.int a1, .int 1, .int 99]) (rest := []) B d_X9_year_15 (t_X9_isWithin a1 1 99 σ rfl) m_X9_isWithin w_WaterOthers_74 rfl rfl (Nat.le_of_ble_eq_true rfl) (by omega) (by decide) ?_
    refine g_if_eq (tgt := 30) B d_X9_year_18 (by decide) h (fun h => ?_) (fun h => ?_)
    · refine g_bipush (v := (-2)) B d_X9_year_30 (by decide) ?_
      obtain ⟨rfl, rfl⟩ := q_ps h
      exact g_iret B En d_X9_year_32
    · refine g_iload_n B d_X9_year_21 rfl rfl ?_
      refine g_iconst (v := 0) B d_X9_year_22 (by decide) ?_
      refine g_iconst (v := 2) B d_X9_year_23 (by decide) ?_
      refine g_callS (As := [.int a2, .int 0, .int 2]) (rest := []) B d_X9_year_24 (t_X9_isWithin a2 0 2 σ rfl) m_X9_isWithin w_WaterOthers_74 rfl rfl (Nat.le_of_ble_eq_true rfl) (by omega) (by decide) ?_
      refine g_if_ne (tgt := 33) B d_X9_year_27 (by decide) h (fun h => ?_) (fun h => ?_)
      · refine g_aload_n B d_X9_year_33 rfl rfl ?_
        refine g_get (ci := 9) (k := 2) (v := .ref (Z.1 71)) B d_X9_year_34 q_in9 rfl (by decide) rfl (by decide) w_WaterOthers_26 rfl rfl ?_
        refine g_getN (ci := 6) (k := 0) (v := .ref (Z.1 17)) B d_X9_year_37 q_in6 rfl (by decide) rfl (by decide) w_WaterOthers_136 rfl rfl ?_
        refine g_astore B d_X9_year_40 (by decide) ?_
        refine g_aload B d_X9_year_42 rfl ?_
        refine g_aload_n B d_X9_year_44 rfl rfl ?_
        refine g_get (ci := 9) (k := 1) (v := .ref (Z.1 0)) B d_X9_year_45 q_in9 rfl (by decide) rfl (by decide) w_WaterOthers_19 rfl rfl ?_
        obtain ⟨z48, g48, h⟩ := q_bind h
        refine g_callV (p0 := 17) (ci := 3) (As := [.ref (Z.1 0)]) (rest := []) B d_X9_year_48 (t_X3_copy N 17 0 q_r17 q_r0 σ g48) m_X3_copy w_WaterOthers_139 (q_Rlt q_r17) ((q_cR q_r17) _ _) rfl rfl rfl (Nat.le_of_ble_eq_true rfl) (by omega) (by decide) ?_
        refine g_aload B d_X9_year_51 rfl ?_
        refine g_iload_n B d_X9_year_53 rfl rfl ?_
        refine g_iload_n B d_X9_year_54 rfl rfl ?_
        obtain ⟨z55, g55, h⟩ := q_bind h
        refine g_callS (As := [.ref (Z.1 17), .int a0, .int a1]) (rest := []) B d_X9_year_55 (t_X9_drawYear N 17 a0 a1 q_r17 z48 g55) m_X9_drawYear w_WaterOthers_262 rfl rfl (Nat.le_of_ble_eq_true rfl) (by omega) (by decide) ?_
        refine g_iload_n B d_X9_year_58 rfl rfl ?_
        refine q_sw h (fun e59_0 h => ?_) (fun e59_0 h => ?_)
        · refine g_lsw (off := 25) (tgt := 84) B d_X9_year_59 (by decide) (by rw [e59_0]; decide) (by decide) ?_
          refine g_aload B d_X9_year_84 rfl ?_
          obtain ⟨z86, g86, h⟩ := q_bind h
          refine g_callV (p0 := 17) (ci := 3) (As := []) (rest := []) B d_X9_year_86 (t_X3_cellSum N 17 q_r17 z55 g86) m_X3_cellSum w_WaterOthers_266 (q_Rlt q_r17) ((q_cR q_r17) _ _) rfl rfl rfl (Nat.le_of_ble_eq_true rfl) (by omega) (by decide) ?_
          obtain ⟨rfl, rfl⟩ := q_ps h
          exact g_iret B En d_X9_year_89
        · skip
          refine q_sw h (fun e59_1 h => ?_) (fun e59_1 h => ?_)
          · refine g_lsw (off := 31) (tgt := 90) B d_X9_year_59 (by decide) (by rw [e59_1]; decide) (by decide) ?_
            refine g_aload B d_X9_year_90 rfl ?_
            obtain ⟨z92, g92, h⟩ := q_bind h
            refine g_callV (p0 := 17) (ci := 3) (As := []) (rest := []) B d_X9_year_92 (t_X3_partedCount N 17 q_r17 z55 g92) m_X3_partedCount w_WaterOthers_163 (q_Rlt q_r17) ((q_cR q_r17) _ _) rfl rfl rfl (Nat.le_of_ble_eq_true rfl) (by omega) (by decide) ?_
            obtain ⟨rfl, rfl⟩ := q_ps h
            exact g_iret B En d_X9_year_95
          · skip
            refine g_lsw (off := 37) (tgt := 96) B d_X9_year_59 (by decide) (by show Op.lookupswitch.offset [(0, 25), (1, 31)] 37 _ = _; rw [lv_osw e59_0 (by decide), lv_osw e59_1 (by decide)]; rfl) (by decide) ?_
            refine g_aload B d_X9_year_96 rfl ?_
            refine g_getN (ci := 3) (k := 2) B d_X9_year_98 q_in3 rfl (q_Rlt q_r17) ((q_cR q_r17) _ _) (by decide) w_WaterOthers_157 rfl rfl ?_
            refine g_if_eq (tgt := 108) B d_X9_year_101 (by decide) h (fun h => ?_) (fun h => ?_)
            · refine g_iconst (v := 0) B d_X9_year_108 (by decide) ?_
              obtain ⟨rfl, rfl⟩ := q_ps h
              exact g_iret B En d_X9_year_109
            · refine g_iconst (v := 1) B d_X9_year_104 (by decide) ?_
              refine g_goto (tgt := 109) B d_X9_year_105 (by decide) ?_
              obtain ⟨rfl, rfl⟩ := q_ps h
              exact g_iret B En d_X9_year_109
      · refine g_bipush (v := (-2)) B d_X9_year_30 (by decide) ?_
        obtain ⟨rfl, rfl⟩ := q_ps h
        exact g_iret B En d_X9_year_32

theorem w_WaterOthers_30 : Cond.fieldLink "WaterOthers" 30 "WaterOthers" "images" "[LWaterOthers$Reach;" ∈ q_tbl := q_mem 257 (by decide +kernel) (by decide +kernel)
theorem w_WaterOthers_34 : Cond.fieldLink "WaterOthers" 34 "WaterOthers" "kept" "[Z" ∈ q_tbl := q_mem 258 (by decide +kernel) (by decide +kernel)
def f_X9_image (N : Nat) (a0 : Int32) (σ : q_S) : Option (Int32 × q_S) :=
  if (f_X9_isWithin a0 0 1) = 0 then (some ((-2), σ))
  else (if ¬ ((a0 : Int32) < 0 ∨ 2 ≤ (a0 : Int32).toNatClampNeg) then (f_X3_copy N (34 + 17 * (a0 : Int32).toNatClampNeg) 0 σ).bind fun z22 =>
    some (1, (q_w z22 73 (a0 : Int32).toNatClampNeg (vp_nar .boolean 1))) else none)
set_option maxRecDepth 20000 in
theorem t_X9_image {Z : q_Z} {l : Launch} (N : Nat) (a0 : Int32)  (σ : q_S) {r : Int32} {σ' : q_S} (h : f_X9_image N a0 σ = some (r, σ')) : q_M Z l y_X9_image prog_1_method_24_code 2 (some .int) 3 [.ref (Z.1 68), .int a0] σ (some (.int r)) σ' := by
  refine q_met (by decide +kernel) (Nat.le_of_ble_eq_true rfl) (fun Γ hΓ B En => ?_)
  unfold f_X9_image at h
  refine g_cut (lv' := [(0, .ref (Z.1 68)), (1, .int a0)]) rfl ?_
  refine g_iload_n B d_X9_image_0 rfl rfl ?_
  refine g_iconst (v := 0) B d_X9_image_1 (by decide) ?_
  refine g_iconst (v := 1) B d_X9_image_2 (by decide) ?_
  refine g_callS (As := [.int a0, .int 0, .int 1]) (rest := []) B d_X9_image_3 (t_X9_isWithin a0 0 1 σ rfl) m_X9_isWithin w_WaterOthers_74 rfl rfl (Nat.le_of_ble_eq_true rfl) (by omega) (by decide) ?_
  refine g_if_ne (tgt := 12) B d_X9_image_6 (by decide) h (fun h => ?_) (fun h => ?_)
  · refine g_aload_n B d_X9_image_12 rfl rfl ?_
    refine g_get (ci := 9) (k := 3) (v := .ref (Z.1 72)) B d_X9_image_13 q_in9 rfl (by decide) rfl (by decide) w_WaterOthers_30 rfl rfl ?_
    refine g_iload_n B d_X9_image_16 rfl rfl ?_
    obtain ⟨h17, h⟩ := q_chk h
    refine g_aald (t := 5) (f := (fun j => 34 + 17 * j)) B d_X9_image_17 (by decide) (fun _ _ => rfl) rfl h17 ?_
    refine g_aload_n B d_X9_image_18 rfl rfl ?_
    refine g_get (ci := 9) (k := 1) (v := .ref (Z.1 0)) B d_X9_image_19 q_in9 rfl (by decide) rfl (by decide) w_WaterOthers_19 rfl rfl ?_
    obtain ⟨z22, g22, h⟩ := q_bind h
    refine g_callV (p0 := (34 + 17 * (a0 : Int32).toNatClampNeg)) (ci := 3) (As := [.ref (Z.1 0)]) (rest := []) B d_X9_image_22 (t_X3_copy N (34 + 17 * (a0 : Int32).toNatClampNeg) 0 (q_IR h17) q_r0 σ g22) m_X3_copy w_WaterOthers_139 (q_Rlt (q_IR h17)) ((q_cR (q_IR h17)) _ _) rfl rfl rfl (Nat.le_of_ble_eq_true rfl) (by omega) (by decide) ?_
    refine g_aload_n B d_X9_image_25 rfl rfl ?_
    refine g_get (ci := 9) (k := 4) (v := .ref (Z.1 73)) B d_X9_image_26 q_in9 rfl (by decide) rfl (by decide) w_WaterOthers_34 rfl rfl ?_
    refine g_iload_n B d_X9_image_29 rfl rfl ?_
    refine g_iconst (v := 1) B d_X9_image_30 (by decide) ?_
    refine g_zast B d_X9_image_31 (by decide) (fun _ _ => rfl) h17 ?_
    refine g_iconst (v := 1) B d_X9_image_32 (by decide) ?_
    obtain ⟨rfl, rfl⟩ := q_ps h
    exact g_iret B En d_X9_image_33
  · refine g_bipush (v := (-2)) B d_X9_image_9 (by decide) ?_
    obtain ⟨rfl, rfl⟩ := q_ps h
    exact g_iret B En d_X9_image_11

def f_X9_restore (N : Nat) (a0 : Int32) (σ : q_S) : Option (Int32 × q_S) :=
  if (f_X9_isWithin a0 0 1) = 0 then (some ((-2), σ))
  else (if ¬ ((a0 : Int32) < 0 ∨ 2 ≤ (a0 : Int32).toNatClampNeg) then if (σ.1 73 (a0 : Int32).toNatClampNeg) = 0 then (some ((-3), σ))
    else ((f_X3_copy N 0 (34 + 17 * (a0 : Int32).toNatClampNeg) σ).bind fun z34 =>
      some (1, z34)) else none)
set_option maxRecDepth 20000 in
theorem t_X9_restore {Z : q_Z} {l : Launch} (N : Nat) (a0 : Int32)  (σ : q_S) {r : Int32} {σ' : q_S} (h : f_X9_restore N a0 σ = some (r, σ')) : q_M Z l y_X9_restore prog_1_method_25_code 2 (some .int) 3 [.ref (Z.1 68), .int a0] σ (some (.int r)) σ' := by
  refine q_met (by decide +kernel) (Nat.le_of_ble_eq_true rfl) (fun Γ hΓ B En => ?_)
  unfold f_X9_restore at h
  refine g_cut (lv' := [(0, .ref (Z.1 68)), (1, .int a0)]) rfl ?_
  refine g_iload_n B d_X9_restore_0 rfl rfl ?_
  refine g_iconst (v := 0) B d_X9_restore_1 (by decide) ?_
  refine g_iconst (v := 1) B d_X9_restore_2 (by decide) ?_
  refine g_callS (As := [.int a0, .int 0, .int 1]) (rest := []) B d_X9_restore_3 (t_X9_isWithin a0 0 1 σ rfl) m_X9_isWithin w_WaterOthers_74 rfl rfl (Nat.le_of_ble_eq_true rfl) (by omega) (by decide) ?_
  refine g_if_ne (tgt := 12) B d_X9_restore_6 (by decide) h (fun h => ?_) (fun h => ?_)
  · refine g_aload_n B d_X9_restore_12 rfl rfl ?_
    refine g_get (ci := 9) (k := 4) (v := .ref (Z.1 73)) B d_X9_restore_13 q_in9 rfl (by decide) rfl (by decide) w_WaterOthers_34 rfl rfl ?_
    refine g_iload_n B d_X9_restore_16 rfl rfl ?_
    obtain ⟨h17, h⟩ := q_chk h
    refine g_zald B d_X9_restore_17 (by decide) (fun _ _ => rfl) h17 ?_
    refine g_if_ne (tgt := 24) B d_X9_restore_18 (by decide) h (fun h => ?_) (fun h => ?_)
    · refine g_aload_n B d_X9_restore_24 rfl rfl ?_
      refine g_get (ci := 9) (k := 1) (v := .ref (Z.1 0)) B d_X9_restore_25 q_in9 rfl (by decide) rfl (by decide) w_WaterOthers_19 rfl rfl ?_
      refine g_aload_n B d_X9_restore_28 rfl rfl ?_
      refine g_get (ci := 9) (k := 3) (v := .ref (Z.1 72)) B d_X9_restore_29 q_in9 rfl (by decide) rfl (by decide) w_WaterOthers_30 rfl rfl ?_
      refine g_iload_n B d_X9_restore_32 rfl rfl ?_
      refine g_aald (t := 5) (f := (fun j => 34 + 17 * j)) B d_X9_restore_33 (by decide) (fun _ _ => rfl) rfl h17 ?_
      obtain ⟨z34, g34, h⟩ := q_bind h
      refine g_callV (p0 := 0) (ci := 3) (As := [.ref (Z.1 (34 + 17 * (a0 : Int32).toNatClampNeg))]) (rest := []) B d_X9_restore_34 (t_X3_copy N 0 (34 + 17 * (a0 : Int32).toNatClampNeg) q_r0 (q_IR h17) σ g34) m_X3_copy w_WaterOthers_139 (q_Rlt q_r0) ((q_cR q_r0) _ _) rfl rfl rfl (Nat.le_of_ble_eq_true rfl) (by omega) (by decide) ?_
      refine g_iconst (v := 1) B d_X9_restore_37 (by decide) ?_
      obtain ⟨rfl, rfl⟩ := q_ps h
      exact g_iret B En d_X9_restore_38
    · refine g_bipush (v := (-3)) B d_X9_restore_21 (by decide) ?_
      obtain ⟨rfl, rfl⟩ := q_ps h
      exact g_iret B En d_X9_restore_23
  · refine g_bipush (v := (-2)) B d_X9_restore_9 (by decide) ?_
    obtain ⟨rfl, rfl⟩ := q_ps h
    exact g_iret B En d_X9_restore_11

theorem w_WaterOthers_273 : Cond.fieldLinkNest "WaterOthers" 273 "WaterOthers$Walker" "late" "I" "WaterOthers" ∈ q_nst := q_memN 81 (by decide +kernel) (by decide +kernel)
def f_X9_toldOfWalker_113  (p1 : Nat) (x2 : Int32) (σ : q_S) : Option Int32 :=
  if (f_X9_isWithin x2 4 8) = 0 then (some (-2))
  else (if ¬ (((x2 - 3) : Int32) < 0 ∨ 6 ≤ ((x2 - 3) : Int32).toNatClampNeg) then some (σ.1 (p1 + 6) ((x2 - 3) : Int32).toNatClampNeg) else none)
def f_X9_toldOfWalker (a0 : Nat) (a1 : Int32) (σ : q_S) : Option Int32 :=
  if a1 = 0 then (some (σ.1 (a0 + 6) (0 : Int32).toNatClampNeg))
  else if a1 = 1 then (some (σ.1 a0 1))
  else if a1 = 2 then ((f_X3_otherCell 0 a0 σ).bind fun z73 =>
        some z73)
  else if a1 = 3 then (if (σ.1 a0 2) = 0 then (some 0)
          else (some 1))
  else if a1 = 4 then (f_X9_toldOfWalker_113 a0 a1 σ)
  else if a1 = 5 then (f_X9_toldOfWalker_113 a0 a1 σ)
  else if a1 = 6 then (f_X9_toldOfWalker_113 a0 a1 σ)
  else if a1 = 7 then (f_X9_toldOfWalker_113 a0 a1 σ)
  else if a1 = 8 then (f_X9_toldOfWalker_113 a0 a1 σ)
  else if a1 = 9 then (if (σ.1 a0 2) = 0 then (some (-6))
                      else (if (σ.1 a0 4) = 0 then (some 0)
                        else (some 1)))
  else (f_X9_toldOfWalker_113 a0 a1 σ)
set_option maxRecDepth 20000 in
theorem t_X9_toldOfWalker_113 {Z : q_Z} {Γ : q_C} {σ : q_S} {r : Int32} (B : q_B Z Γ prog_1_method_29_code "WaterOthers" 3 2) (En : q_E Z Γ (some .int) (some (.int r)) σ)  (p1 : Nat) (x2 : Int32)  (hp1 : q_Wk p1) (h : f_X9_toldOfWalker_113 p1 x2 σ = some r) : q_G Z Γ 3 σ 113 [(1, .ref (Z.1 p1)), (2, .int x2)] [] := by
  unfold f_X9_toldOfWalker_113 at h
  refine g_iload_n B d_X9_toldOfWalker_113 rfl rfl ?_
  refine g_iconst (v := 4) B d_X9_toldOfWalker_114 (by decide) ?_
  refine g_bipush (v := 8) B d_X9_toldOfWalker_115 (by decide) ?_
  refine g_callS (As := [.int x2, .int 4, .int 8]) (rest := []) B d_X9_toldOfWalker_117 (t_X9_isWithin x2 4 8 σ rfl) m_X9_isWithin w_WaterOthers_74 rfl rfl (Nat.le_of_ble_eq_true rfl) (by omega) (by decide) ?_
  refine g_if_eq (tgt := 134) B d_X9_toldOfWalker_120 (by decide) h (fun h => ?_) (fun h => ?_)
  · refine g_bipush (v := (-2)) B d_X9_toldOfWalker_134 (by decide) ?_
    obtain rfl := q_po h
    exact g_iret B En d_X9_toldOfWalker_136
  · refine g_aload_n B d_X9_toldOfWalker_123 rfl rfl ?_
    refine g_getN (ci := 8) (k := 5) (v := .ref (Z.1 (p1 + 6))) B d_X9_toldOfWalker_124 q_in8 rfl (q_Wlt hp1) ((q_cW hp1) _ _) (by decide) w_WaterOthers_146 rfl rfl ?_
    refine g_iload_n B d_X9_toldOfWalker_127 rfl rfl ?_
    refine g_iconst (v := 3) B d_X9_toldOfWalker_128 (by decide) ?_
    refine g_isub B d_X9_toldOfWalker_129 ?_
    obtain ⟨h130, h⟩ := q_chk h
    refine g_iald B d_X9_toldOfWalker_130 (q_WAlt hp1) (q_cWA hp1) h130 ?_
    refine g_goto (tgt := 136) B d_X9_toldOfWalker_131 (by decide) ?_
    obtain rfl := q_po h
    exact g_iret B En d_X9_toldOfWalker_136
set_option maxRecDepth 20000 in
theorem t_X9_toldOfWalker {Z : q_Z} {l : Launch} (a0 : Nat) (a1 : Int32) (h0 : q_Wk a0) (σ : q_S) {r : Int32} (h : f_X9_toldOfWalker a0 a1 σ = some r) : q_M Z l y_X9_toldOfWalker prog_1_method_29_code 3 (some .int) 2 [.ref (Z.1 68), .ref (Z.1 a0), .int a1] σ (some (.int r)) σ := by
  refine q_met (by decide +kernel) (Nat.le_of_ble_eq_true rfl) (fun Γ hΓ B En => ?_)
  unfold f_X9_toldOfWalker at h
  refine g_cut (lv' := [(0, .ref (Z.1 68)), (1, .ref (Z.1 a0)), (2, .int a1)]) rfl ?_
  refine g_iload_n B d_X9_toldOfWalker_0 rfl rfl ?_
  refine q_sw h (fun e1_0 h => ?_) (fun e1_0 h => ?_)
  · refine g_tswIn (c0 := 0) (tgt := 56) B d_X9_toldOfWalker_1 e1_0 (by decide) (by decide) rfl (by decide) ?_
    refine g_aload_n B d_X9_toldOfWalker_56 rfl rfl ?_
    refine g_getN (ci := 8) (k := 5) (v := .ref (Z.1 (a0 + 6))) B d_X9_toldOfWalker_57 q_in8 rfl (q_Wlt h0) ((q_cW h0) _ _) (by decide) w_WaterOthers_146 rfl rfl ?_
    refine g_iconst (v := 0) B d_X9_toldOfWalker_60 (by decide) ?_
    refine g_iald B d_X9_toldOfWalker_61 (q_WAlt h0) (q_cWA h0) (by decide) ?_
    obtain rfl := q_po h
    exact g_iret B En d_X9_toldOfWalker_62
  · skip
    refine q_sw h (fun e1_1 h => ?_) (fun e1_1 h => ?_)
    · refine g_tswIn (c0 := 1) (tgt := 63) B d_X9_toldOfWalker_1 e1_1 (by decide) (by decide) rfl (by decide) ?_
      refine g_aload_n B d_X9_toldOfWalker_63 rfl rfl ?_
      refine g_getN (ci := 8) (k := 1) B d_X9_toldOfWalker_64 q_in8 rfl (q_Wlt h0) ((q_cW h0) _ _) (by decide) w_WaterOthers_273 rfl rfl ?_
      obtain rfl := q_po h
      exact g_iret B En d_X9_toldOfWalker_67
    · skip
      refine q_sw h (fun e1_2 h => ?_) (fun e1_2 h => ?_)
      · refine g_tswIn (c0 := 2) (tgt := 68) B d_X9_toldOfWalker_1 e1_2 (by decide) (by decide) rfl (by decide) ?_
        refine g_aload_n B d_X9_toldOfWalker_68 rfl rfl ?_
        refine g_get (ci := 9) (k := 1) (v := .ref (Z.1 0)) B d_X9_toldOfWalker_69 q_in9 rfl (by decide) rfl (by decide) w_WaterOthers_19 rfl rfl ?_
        refine g_aload_n B d_X9_toldOfWalker_72 rfl rfl ?_
        obtain ⟨z73, g73, h⟩ := q_bind h
        refine g_callV (p0 := 0) (ci := 3) (As := [.ref (Z.1 a0)]) (rest := []) B d_X9_toldOfWalker_73 (t_X3_otherCell 0 a0 q_r0 h0 σ g73) m_X3_otherCell w_WaterOthers_150 (q_Rlt q_r0) ((q_cR q_r0) _ _) rfl rfl rfl (Nat.le_of_ble_eq_true rfl) (by omega) (by decide) ?_
        obtain rfl := q_po h
        exact g_iret B En d_X9_toldOfWalker_76
      · skip
        refine q_sw h (fun e1_3 h => ?_) (fun e1_3 h => ?_)
        · refine g_tswIn (c0 := 3) (tgt := 77) B d_X9_toldOfWalker_1 e1_3 (by decide) (by decide) rfl (by decide) ?_
          refine g_aload_n B d_X9_toldOfWalker_77 rfl rfl ?_
          refine g_getN (ci := 8) (k := 2) B d_X9_toldOfWalker_78 q_in8 rfl (q_Wlt h0) ((q_cW h0) _ _) (by decide) w_WaterOthers_154 rfl rfl ?_
          refine g_if_eq (tgt := 88) B d_X9_toldOfWalker_81 (by decide) h (fun h => ?_) (fun h => ?_)
          · refine g_iconst (v := 0) B d_X9_toldOfWalker_88 (by decide) ?_
            obtain rfl := q_po h
            exact g_iret B En d_X9_toldOfWalker_89
          · refine g_iconst (v := 1) B d_X9_toldOfWalker_84 (by decide) ?_
            refine g_goto (tgt := 89) B d_X9_toldOfWalker_85 (by decide) ?_
            obtain rfl := q_po h
            exact g_iret B En d_X9_toldOfWalker_89
        · skip
          refine q_sw h (fun e1_4 h => ?_) (fun e1_4 h => ?_)
          · refine g_tswIn (c0 := 4) (tgt := 113) B d_X9_toldOfWalker_1 e1_4 (by decide) (by decide) rfl (by decide) ?_
            exact g_cut rfl (t_X9_toldOfWalker_113 B En a0 a1 h0 h)
          · skip
            refine q_sw h (fun e1_5 h => ?_) (fun e1_5 h => ?_)
            · refine g_tswIn (c0 := 5) (tgt := 113) B d_X9_toldOfWalker_1 e1_5 (by decide) (by decide) rfl (by decide) ?_
              exact g_cut rfl (t_X9_toldOfWalker_113 B En a0 a1 h0 h)
            · skip
              refine q_sw h (fun e1_6 h => ?_) (fun e1_6 h => ?_)
              · refine g_tswIn (c0 := 6) (tgt := 113) B d_X9_toldOfWalker_1 e1_6 (by decide) (by decide) rfl (by decide) ?_
                exact g_cut rfl (t_X9_toldOfWalker_113 B En a0 a1 h0 h)
              · skip
                refine q_sw h (fun e1_7 h => ?_) (fun e1_7 h => ?_)
                · refine g_tswIn (c0 := 7) (tgt := 113) B d_X9_toldOfWalker_1 e1_7 (by decide) (by decide) rfl (by decide) ?_
                  exact g_cut rfl (t_X9_toldOfWalker_113 B En a0 a1 h0 h)
                · skip
                  refine q_sw h (fun e1_8 h => ?_) (fun e1_8 h => ?_)
                  · refine g_tswIn (c0 := 8) (tgt := 113) B d_X9_toldOfWalker_1 e1_8 (by decide) (by decide) rfl (by decide) ?_
                    exact g_cut rfl (t_X9_toldOfWalker_113 B En a0 a1 h0 h)
                  · skip
                    refine q_sw h (fun e1_9 h => ?_) (fun e1_9 h => ?_)
                    · refine g_tswIn (c0 := 9) (tgt := 90) B d_X9_toldOfWalker_1 e1_9 (by decide) (by decide) rfl (by decide) ?_
                      refine g_aload_n B d_X9_toldOfWalker_90 rfl rfl ?_
                      refine g_getN (ci := 8) (k := 2) B d_X9_toldOfWalker_91 q_in8 rfl (q_Wlt h0) ((q_cW h0) _ _) (by decide) w_WaterOthers_154 rfl rfl ?_
                      refine g_if_ne (tgt := 100) B d_X9_toldOfWalker_94 (by decide) h (fun h => ?_) (fun h => ?_)
                      · refine g_aload_n B d_X9_toldOfWalker_100 rfl rfl ?_
                        refine g_getN (ci := 8) (k := 4) B d_X9_toldOfWalker_101 q_in8 rfl (q_Wlt h0) ((q_cW h0) _ _) (by decide) w_WaterOthers_276 rfl rfl ?_
                        refine g_if_eq (tgt := 111) B d_X9_toldOfWalker_104 (by decide) h (fun h => ?_) (fun h => ?_)
                        · refine g_iconst (v := 0) B d_X9_toldOfWalker_111 (by decide) ?_
                          obtain rfl := q_po h
                          exact g_iret B En d_X9_toldOfWalker_112
                        · refine g_iconst (v := 1) B d_X9_toldOfWalker_107 (by decide) ?_
                          refine g_goto (tgt := 112) B d_X9_toldOfWalker_108 (by decide) ?_
                          obtain rfl := q_po h
                          exact g_iret B En d_X9_toldOfWalker_112
                      · refine g_bipush (v := (-6)) B d_X9_toldOfWalker_97 (by decide) ?_
                        obtain rfl := q_po h
                        exact g_iret B En d_X9_toldOfWalker_99
                    · skip
                      have ze1_0 := q_ne (n := 0) e1_0 (by decide)
                      have ze1_1 := q_ne (n := 1) e1_1 (by decide)
                      have ze1_2 := q_ne (n := 2) e1_2 (by decide)
                      have ze1_3 := q_ne (n := 3) e1_3 (by decide)
                      have ze1_4 := q_ne (n := 4) e1_4 (by decide)
                      have ze1_5 := q_ne (n := 5) e1_5 (by decide)
                      have ze1_6 := q_ne (n := 6) e1_6 (by decide)
                      have ze1_7 := q_ne (n := 7) e1_7 (by decide)
                      have ze1_8 := q_ne (n := 8) e1_8 (by decide)
                      have ze1_9 := q_ne (n := 9) e1_9 (by decide)
                      refine g_tswOut (tgt := 113) B d_X9_toldOfWalker_1 (by change (a1 : Int32).toInt < _ ∨ _ < (a1 : Int32).toInt; omega) (by decide) ?_
                      exact g_cut rfl (t_X9_toldOfWalker_113 B En a0 a1 h0 h)

theorem w_WaterOthers_269 : Cond.methodLink "WaterOthers" 269 y_X9_toldOfWalker ∈ q_tbl := q_mem 675 (by decide +kernel) (by decide +kernel)
def f_X9_told_45 (N : Nat)  (x1 : Int32) (σ : q_S) : Option Int32 :=
  if x1 = 0 then (some (σ.1 69 1))
  else if x1 = 1 then ((f_X3_thereBits N 0 σ).bind fun z100 =>
      some z100)
  else if x1 = 2 then (some (σ.1 0 0))
  else if x1 = 3 then (some (σ.1 0 1))
  else if x1 = 4 then (if (σ.1 0 2) = 0 then (some 0)
            else (some 1))
  else if x1 = 5 then (some (σ.1 0 3))
  else if x1 = 6 then (some (σ.1 14 2))
  else (some (-2))
def f_X9_told (N : Nat) (a0 : Int32) (σ : q_S) : Option Int32 :=
  if a0 < 10 then (f_X9_told_45 N a0 σ)
  else ((f_X3_has 0 ((a0 / 10) - 1) σ).bind fun z16 =>
    if z16 = 0 then (f_X9_told_45 N a0 σ)
    else (if ¬ ((((a0 / 10) - 1) : Int32) < 0 ∨ 6 ≤ (((a0 / 10) - 1) : Int32).toNatClampNeg) then (f_X9_toldOfWalker (0 + 2 + (((a0 / 10) - 1) : Int32).toNatClampNeg) (q_rem a0 10) σ).bind fun z41 =>
      some z41 else none))
set_option maxRecDepth 20000 in
theorem t_X9_told_45 {Z : q_Z} {Γ : q_C} {σ : q_S} {r : Int32} (B : q_B Z Γ prog_1_method_26_code "WaterOthers" 2 3) (En : q_E Z Γ (some .int) (some (.int r)) σ) (N : Nat)  (x1 : Int32)   (h : f_X9_told_45 N x1 σ = some r) : q_G Z Γ 2 σ 45 [(0, .ref (Z.1 68)), (1, .int x1)] [] := by
  unfold f_X9_told_45 at h
  refine g_iload_n B d_X9_told_45 rfl rfl ?_
  refine q_sw h (fun e46_0 h => ?_) (fun e46_0 h => ?_)
  · refine g_tswIn (c0 := 0) (tgt := 88) B d_X9_told_46 e46_0 (by decide) (by decide) rfl (by decide) ?_
    refine g_aload_n B d_X9_told_88 rfl rfl ?_
    refine g_get (ci := 9) (k := 0) (v := .ref (Z.1 69)) B d_X9_told_89 q_in9 rfl (by decide) rfl (by decide) w_WaterOthers_10 rfl rfl ?_
    refine g_getN (ci := 2) (k := 1) B d_X9_told_92 q_in2 rfl (by decide) rfl (by decide) w_WaterOthers_111 rfl rfl ?_
    obtain rfl := q_po h
    exact g_iret B En d_X9_told_95
  · skip
    refine q_sw h (fun e46_1 h => ?_) (fun e46_1 h => ?_)
    · refine g_tswIn (c0 := 1) (tgt := 96) B d_X9_told_46 e46_1 (by decide) (by decide) rfl (by decide) ?_
      refine g_aload_n B d_X9_told_96 rfl rfl ?_
      refine g_get (ci := 9) (k := 1) (v := .ref (Z.1 0)) B d_X9_told_97 q_in9 rfl (by decide) rfl (by decide) w_WaterOthers_19 rfl rfl ?_
      obtain ⟨z100, g100, h⟩ := q_bind h
      refine g_callV (p0 := 0) (ci := 3) (As := []) (rest := []) B d_X9_told_100 (t_X3_thereBits N 0 q_r0 σ g100) m_X3_thereBits w_WaterOthers_91 (q_Rlt q_r0) ((q_cR q_r0) _ _) rfl rfl rfl (Nat.le_of_ble_eq_true rfl) (by omega) (by decide) ?_
      obtain rfl := q_po h
      exact g_iret B En d_X9_told_103
    · skip
      refine q_sw h (fun e46_2 h => ?_) (fun e46_2 h => ?_)
      · refine g_tswIn (c0 := 2) (tgt := 104) B d_X9_told_46 e46_2 (by decide) (by decide) rfl (by decide) ?_
        refine g_aload_n B d_X9_told_104 rfl rfl ?_
        refine g_get (ci := 9) (k := 1) (v := .ref (Z.1 0)) B d_X9_told_105 q_in9 rfl (by decide) rfl (by decide) w_WaterOthers_19 rfl rfl ?_
        refine g_getN (ci := 3) (k := 0) B d_X9_told_108 q_in3 rfl (q_Rlt q_r0) ((q_cR q_r0) _ _) (by decide) w_WaterOthers_70 rfl rfl ?_
        obtain rfl := q_po h
        exact g_iret B En d_X9_told_111
      · skip
        refine q_sw h (fun e46_3 h => ?_) (fun e46_3 h => ?_)
        · refine g_tswIn (c0 := 3) (tgt := 112) B d_X9_told_46 e46_3 (by decide) (by decide) rfl (by decide) ?_
          refine g_aload_n B d_X9_told_112 rfl rfl ?_
          refine g_get (ci := 9) (k := 1) (v := .ref (Z.1 0)) B d_X9_told_113 q_in9 rfl (by decide) rfl (by decide) w_WaterOthers_19 rfl rfl ?_
          refine g_getN (ci := 3) (k := 1) B d_X9_told_116 q_in3 rfl (q_Rlt q_r0) ((q_cR q_r0) _ _) (by decide) w_WaterOthers_78 rfl rfl ?_
          obtain rfl := q_po h
          exact g_iret B En d_X9_told_119
        · skip
          refine q_sw h (fun e46_4 h => ?_) (fun e46_4 h => ?_)
          · refine g_tswIn (c0 := 4) (tgt := 120) B d_X9_told_46 e46_4 (by decide) (by decide) rfl (by decide) ?_
            refine g_aload_n B d_X9_told_120 rfl rfl ?_
            refine g_get (ci := 9) (k := 1) (v := .ref (Z.1 0)) B d_X9_told_121 q_in9 rfl (by decide) rfl (by decide) w_WaterOthers_19 rfl rfl ?_
            refine g_getN (ci := 3) (k := 2) B d_X9_told_124 q_in3 rfl (q_Rlt q_r0) ((q_cR q_r0) _ _) (by decide) w_WaterOthers_157 rfl rfl ?_
            refine g_if_eq (tgt := 134) B d_X9_told_127 (by decide) h (fun h => ?_) (fun h => ?_)
            · refine g_iconst (v := 0) B d_X9_told_134 (by decide) ?_
              obtain rfl := q_po h
              exact g_iret B En d_X9_told_135
            · refine g_iconst (v := 1) B d_X9_told_130 (by decide) ?_
              refine g_goto (tgt := 135) B d_X9_told_131 (by decide) ?_
              obtain rfl := q_po h
              exact g_iret B En d_X9_told_135
          · skip
            refine q_sw h (fun e46_5 h => ?_) (fun e46_5 h => ?_)
            · refine g_tswIn (c0 := 5) (tgt := 136) B d_X9_told_46 e46_5 (by decide) (by decide) rfl (by decide) ?_
              refine g_aload_n B d_X9_told_136 rfl rfl ?_
              refine g_get (ci := 9) (k := 1) (v := .ref (Z.1 0)) B d_X9_told_137 q_in9 rfl (by decide) rfl (by decide) w_WaterOthers_19 rfl rfl ?_
              refine g_getN (ci := 3) (k := 3) B d_X9_told_140 q_in3 rfl (q_Rlt q_r0) ((q_cR q_r0) _ _) (by decide) w_WaterOthers_160 rfl rfl ?_
              obtain rfl := q_po h
              exact g_iret B En d_X9_told_143
            · skip
              refine q_sw h (fun e46_6 h => ?_) (fun e46_6 h => ?_)
              · refine g_tswIn (c0 := 6) (tgt := 144) B d_X9_told_46 e46_6 (by decide) (by decide) rfl (by decide) ?_
                refine g_aload_n B d_X9_told_144 rfl rfl ?_
                refine g_get (ci := 9) (k := 1) (v := .ref (Z.1 0)) B d_X9_told_145 q_in9 rfl (by decide) rfl (by decide) w_WaterOthers_19 rfl rfl ?_
                refine g_getN (ci := 3) (k := 5) (v := .ref (Z.1 14)) B d_X9_told_148 q_in3 rfl (q_Rlt q_r0) ((q_cR q_r0) _ _) (by decide) w_WaterOthers_206 rfl rfl ?_
                refine g_getN (ci := 5) (k := 2) B d_X9_told_151 q_in5 rfl (q_Slt (q_RS q_r0)) ((q_cS (q_RS q_r0)) _ _) (by decide) w_WaterOthers_213 rfl rfl ?_
                obtain rfl := q_po h
                exact g_iret B En d_X9_told_154
              · skip
                have ze46_0 := q_ne (n := 0) e46_0 (by decide)
                have ze46_1 := q_ne (n := 1) e46_1 (by decide)
                have ze46_2 := q_ne (n := 2) e46_2 (by decide)
                have ze46_3 := q_ne (n := 3) e46_3 (by decide)
                have ze46_4 := q_ne (n := 4) e46_4 (by decide)
                have ze46_5 := q_ne (n := 5) e46_5 (by decide)
                have ze46_6 := q_ne (n := 6) e46_6 (by decide)
                refine g_tswOut (tgt := 155) B d_X9_told_46 (by change (x1 : Int32).toInt < _ ∨ _ < (x1 : Int32).toInt; omega) (by decide) ?_
                refine g_bipush (v := (-2)) B d_X9_told_155 (by decide) ?_
                obtain rfl := q_po h
                exact g_iret B En d_X9_told_157
set_option maxRecDepth 20000 in
theorem t_X9_told {Z : q_Z} {l : Launch} (N : Nat) (a0 : Int32)  (σ : q_S) {r : Int32} (h : f_X9_told N a0 σ = some r) : q_M Z l y_X9_told prog_1_method_26_code 2 (some .int) 3 [.ref (Z.1 68), .int a0] σ (some (.int r)) σ := by
  refine q_met (by decide +kernel) (Nat.le_of_ble_eq_true rfl) (fun Γ hΓ B En => ?_)
  unfold f_X9_told at h
  refine g_cut (lv' := [(0, .ref (Z.1 68)), (1, .int a0)]) rfl ?_
  refine g_iload_n B d_X9_told_0 rfl rfl ?_
  refine g_bipush (v := 10) B d_X9_told_1 (by decide) ?_
  refine g_icmp_lt (tgt := 45) B d_X9_told_3 (by decide) h (fun h => ?_) (fun h => ?_)
  · exact g_cut rfl (t_X9_told_45 B En N a0 h)
  · refine g_aload_n B d_X9_told_6 rfl rfl ?_
    refine g_get (ci := 9) (k := 1) (v := .ref (Z.1 0)) B d_X9_told_7 q_in9 rfl (by decide) rfl (by decide) w_WaterOthers_19 rfl rfl ?_
    refine g_iload_n B d_X9_told_10 rfl rfl ?_
    refine g_bipush (v := 10) B d_X9_told_11 (by decide) ?_
    refine g_idiv B d_X9_told_13 (by decide) ?_
    refine g_iconst (v := 1) B d_X9_told_14 (by decide) ?_
    refine g_isub B d_X9_told_15 ?_
    obtain ⟨z16, g16, h⟩ := q_bind h
    refine g_callV (p0 := 0) (ci := 3) (As := [.int ((a0 / 10) - 1)]) (rest := []) B d_X9_told_16 (t_X3_has 0 ((a0 / 10) - 1) q_r0 σ g16) m_X3_has w_WaterOthers_101 (q_Rlt q_r0) ((q_cR q_r0) _ _) rfl rfl rfl (Nat.le_of_ble_eq_true rfl) (by omega) (by decide) ?_
    refine g_if_eq (tgt := 45) B d_X9_told_19 (by decide) h (fun h => ?_) (fun h => ?_)
    · exact g_cut rfl (t_X9_told_45 B En N a0 h)
    · refine g_aload_n B d_X9_told_22 rfl rfl ?_
      refine g_aload_n B d_X9_told_23 rfl rfl ?_
      refine g_get (ci := 9) (k := 1) (v := .ref (Z.1 0)) B d_X9_told_24 q_in9 rfl (by decide) rfl (by decide) w_WaterOthers_19 rfl rfl ?_
      refine g_getN (ci := 3) (k := 4) (v := .ref (Z.1 1)) B d_X9_told_27 q_in3 rfl (q_Rlt q_r0) ((q_cR q_r0) _ _) (by decide) w_WaterOthers_81 rfl rfl ?_
      refine g_iload_n B d_X9_told_30 rfl rfl ?_
      refine g_bipush (v := 10) B d_X9_told_31 (by decide) ?_
      refine g_idiv B d_X9_told_33 (by decide) ?_
      refine g_iconst (v := 1) B d_X9_told_34 (by decide) ?_
      refine g_isub B d_X9_told_35 ?_
      obtain ⟨h36, h⟩ := q_chk h
      refine g_aald (t := 4) (f := (fun j => 0 + 2 + j)) B d_X9_told_36 (q_RAlt q_r0) (q_cRA q_r0) rfl h36 ?_
      refine g_iload_n B d_X9_told_37 rfl rfl ?_
      refine g_bipush (v := 10) B d_X9_told_38 (by decide) ?_
      refine g_irem B d_X9_told_40 (by decide) ?_
      obtain ⟨z41, g41, h⟩ := q_bind h
      refine g_callV (p0 := 68) (ci := 9) (As := [.ref (Z.1 (0 + 2 + (((a0 / 10) - 1) : Int32).toNatClampNeg)), .int (q_rem a0 10)]) (rest := []) B d_X9_told_41 (t_X9_toldOfWalker (0 + 2 + (((a0 / 10) - 1) : Int32).toNatClampNeg) (q_rem a0 10) (q_RW q_r0 h36) σ g41) m_X9_toldOfWalker w_WaterOthers_269 (by decide) rfl rfl rfl rfl (Nat.le_of_ble_eq_true rfl) (by omega) (by decide) ?_
      obtain rfl := q_po h
      exact g_iret B En d_X9_told_44
