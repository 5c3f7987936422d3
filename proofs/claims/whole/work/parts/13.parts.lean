def y_X1_tenTo : MethodName := ⟨"WaterOthers$CalmRows", "tenTo", "(I)J"⟩
def y_X1_sumOfEnds : MethodName := ⟨"WaterOthers$CalmRows", "sumOfEnds", "(I)J"⟩
def y_X1_withoutRow : MethodName := ⟨"WaterOthers$CalmRows", "withoutRow", "(III)J"⟩
def y_X1_withRow : MethodName := ⟨"WaterOthers$CalmRows", "withRow", "(III)J"⟩
def y_X1_longestRows : MethodName := ⟨"WaterOthers$CalmRows", "longestRows", "(II)J"⟩
def y_X4_cellAt : MethodName := ⟨"WaterOthers$Ring", "cellAt", "(II)I"⟩
def y_X4_isFit : MethodName := ⟨"WaterOthers$Ring", "isFit", "(ILWaterOthers$Sights;)Z"⟩
def y_X4_countFits : MethodName := ⟨"WaterOthers$Ring", "countFits", "(LWaterOthers$Sights;)I"⟩
def y_X4_fitAt : MethodName := ⟨"WaterOthers$Ring", "fitAt", "(LWaterOthers$Sights;I)I"⟩
def y_X4_fillCrowds : MethodName := ⟨"WaterOthers$Ring", "fillCrowds", "(LWaterOthers$Sights;)V"⟩
def y_X4_greatestCrowd : MethodName := ⟨"WaterOthers$Ring", "greatestCrowd", "(I)I"⟩
def y_X4_seekQuestion : MethodName := ⟨"WaterOthers$Ring", "seekQuestion", "(LWaterOthers$Sights;)V"⟩
def y_X6_tellAct : MethodName := ⟨"WaterOthers$Telling", "tellAct", "(IC)V"⟩
def y_X6_tell : MethodName := ⟨"WaterOthers$Telling", "tell", "(LWaterOthers$Pad;LWaterOthers$Reach;)V"⟩
def y_X7_lastActs : MethodName := ⟨"WaterOthers$TripFinder", "lastActs", "(LWaterOthers$Walker;)I"⟩
def y_X7_offer : MethodName := ⟨"WaterOthers$TripFinder", "offer", "(III)V"⟩
def y_X7_lead : MethodName := ⟨"WaterOthers$TripFinder", "lead", "(II)I"⟩
def y_X7_tryWay : MethodName := ⟨"WaterOthers$TripFinder", "tryWay", "(IIIII)V"⟩
def y_X7_search : MethodName := ⟨"WaterOthers$TripFinder", "search", "(LWaterOthers$Walker;II)V"⟩
def y_X7_find : MethodName := ⟨"WaterOthers$TripFinder", "find", "(LWaterOthers$Walker;II)V"⟩
def y_X0_letThrough : MethodName := ⟨"WaterOthers$ArchQueue", "letThrough", "(IIII)V"⟩
def y_X0_settle : MethodName := ⟨"WaterOthers$ArchQueue", "settle", "(II)V"⟩
theorem d_X1_tenTo_0 : q_dec prog_3_method_2_code 0 (.lconst 1) 1 1 := ⟨by decide +kernel, rfl⟩
theorem d_X1_tenTo_1 : q_dec prog_3_method_2_code 1 (.lstore_n 1) 1 2 := ⟨by decide +kernel, rfl⟩
theorem d_X1_tenTo_2 : q_dec prog_3_method_2_code 2 (.iconst 0) 1 3 := ⟨by decide +kernel, rfl⟩
theorem d_X1_tenTo_3 : q_dec prog_3_method_2_code 3 (.istore_n 3) 1 4 := ⟨by decide +kernel, rfl⟩
theorem d_X1_tenTo_4 : q_dec prog_3_method_2_code 4 (.iload_n 3) 1 5 := ⟨by decide +kernel, rfl⟩
theorem d_X1_tenTo_5 : q_dec prog_3_method_2_code 5 (.iload_n 0) 1 6 := ⟨by decide +kernel, rfl⟩
theorem d_X1_tenTo_6 : q_dec prog_3_method_2_code 6 (.if_icmp .ge 15) 3 9 := ⟨by decide +kernel, rfl⟩
theorem d_X1_tenTo_9 : q_dec prog_3_method_2_code 9 (.lload_n 1) 1 10 := ⟨by decide +kernel, rfl⟩
theorem d_X1_tenTo_10 : q_dec prog_3_method_2_code 10 (.ldc2_w 13) 3 13 := ⟨by decide +kernel, rfl⟩
theorem d_X1_tenTo_13 : q_dec prog_3_method_2_code 13 (.lmul) 1 14 := ⟨by decide +kernel, rfl⟩
theorem d_X1_tenTo_14 : q_dec prog_3_method_2_code 14 (.lstore_n 1) 1 15 := ⟨by decide +kernel, rfl⟩
theorem d_X1_tenTo_15 : q_dec prog_3_method_2_code 15 (.iinc 3 1) 3 18 := ⟨by decide +kernel, rfl⟩
theorem d_X1_tenTo_18 : q_dec prog_3_method_2_code 18 (.goto (-14)) 3 21 := ⟨by decide +kernel, rfl⟩
theorem d_X1_tenTo_21 : q_dec prog_3_method_2_code 21 (.lload_n 1) 1 22 := ⟨by decide +kernel, rfl⟩
theorem d_X1_tenTo_22 : q_dec prog_3_method_2_code 22 (.lreturn) 1 23 := ⟨by decide +kernel, rfl⟩
theorem m_X1_tenTo : q_wS y_X1_tenTo prog_3_method_2_code 4 (some .long) 1 := ⟨q_mem 625 (by decide +kernel) (by decide +kernel), q_mem 624 (by decide +kernel) (by decide +kernel), q_mem 10 (by decide +kernel) (by decide +kernel), by decide +kernel⟩
theorem d_X1_sumOfEnds_0 : q_dec prog_3_method_6_code 0 (.lconst 0) 1 1 := ⟨by decide +kernel, rfl⟩
theorem d_X1_sumOfEnds_1 : q_dec prog_3_method_6_code 1 (.lstore_n 2) 1 2 := ⟨by decide +kernel, rfl⟩
theorem d_X1_sumOfEnds_2 : q_dec prog_3_method_6_code 2 (.iconst 0) 1 3 := ⟨by decide +kernel, rfl⟩
theorem d_X1_sumOfEnds_3 : q_dec prog_3_method_6_code 3 (.istore 4) 2 5 := ⟨by decide +kernel, rfl⟩
theorem d_X1_sumOfEnds_5 : q_dec prog_3_method_6_code 5 (.iload 4) 2 7 := ⟨by decide +kernel, rfl⟩
theorem d_X1_sumOfEnds_7 : q_dec prog_3_method_6_code 7 (.iload_n 1) 1 8 := ⟨by decide +kernel, rfl⟩
theorem d_X1_sumOfEnds_8 : q_dec prog_3_method_6_code 8 (.if_icmp .ge 26) 3 11 := ⟨by decide +kernel, rfl⟩
theorem d_X1_sumOfEnds_11 : q_dec prog_3_method_6_code 11 (.iload 4) 2 13 := ⟨by decide +kernel, rfl⟩
theorem d_X1_sumOfEnds_13 : q_dec prog_3_method_6_code 13 (.bipush 15) 2 15 := ⟨by decide +kernel, rfl⟩
theorem d_X1_sumOfEnds_15 : q_dec prog_3_method_6_code 15 (.if_icmp .gt 19) 3 18 := ⟨by decide +kernel, rfl⟩
theorem d_X1_sumOfEnds_18 : q_dec prog_3_method_6_code 18 (.lload_n 2) 1 19 := ⟨by decide +kernel, rfl⟩
theorem d_X1_sumOfEnds_19 : q_dec prog_3_method_6_code 19 (.aload_n 0) 1 20 := ⟨by decide +kernel, rfl⟩
theorem d_X1_sumOfEnds_20 : q_dec prog_3_method_6_code 20 (.getfield 9) 3 23 := ⟨by decide +kernel, rfl⟩
theorem d_X1_sumOfEnds_23 : q_dec prog_3_method_6_code 23 (.iload 4) 2 25 := ⟨by decide +kernel, rfl⟩
theorem d_X1_sumOfEnds_25 : q_dec prog_3_method_6_code 25 (.laload) 1 26 := ⟨by decide +kernel, rfl⟩
theorem d_X1_sumOfEnds_26 : q_dec prog_3_method_6_code 26 (.ladd) 1 27 := ⟨by decide +kernel, rfl⟩
theorem d_X1_sumOfEnds_27 : q_dec prog_3_method_6_code 27 (.lstore_n 2) 1 28 := ⟨by decide +kernel, rfl⟩
theorem d_X1_sumOfEnds_28 : q_dec prog_3_method_6_code 28 (.iinc 4 1) 3 31 := ⟨by decide +kernel, rfl⟩
theorem d_X1_sumOfEnds_31 : q_dec prog_3_method_6_code 31 (.goto (-26)) 3 34 := ⟨by decide +kernel, rfl⟩
theorem d_X1_sumOfEnds_34 : q_dec prog_3_method_6_code 34 (.lload_n 2) 1 35 := ⟨by decide +kernel, rfl⟩
theorem d_X1_sumOfEnds_35 : q_dec prog_3_method_6_code 35 (.lreturn) 1 36 := ⟨by decide +kernel, rfl⟩
theorem m_X1_sumOfEnds : q_wV y_X1_sumOfEnds prog_3_method_6_code 5 (some .long) 1 := ⟨q_mem 637 (by decide +kernel) (by decide +kernel), q_mem 636 (by decide +kernel) (by decide +kernel), q_memS (n := 1) 13 (by decide +kernel), q_mem 10 (by decide +kernel) (by decide +kernel), by decide +kernel⟩
theorem d_X1_withoutRow_0 : q_dec prog_3_method_5_code 0 (.iload_n 3) 1 1 := ⟨by decide +kernel, rfl⟩
theorem d_X1_withoutRow_1 : q_dec prog_3_method_5_code 1 (.iconst 1) 1 2 := ⟨by decide +kernel, rfl⟩
theorem d_X1_withoutRow_2 : q_dec prog_3_method_5_code 2 (.if_icmp .lt 9) 3 5 := ⟨by decide +kernel, rfl⟩
theorem d_X1_withoutRow_5 : q_dec prog_3_method_5_code 5 (.iload_n 3) 1 6 := ⟨by decide +kernel, rfl⟩
theorem d_X1_withoutRow_6 : q_dec prog_3_method_5_code 6 (.bipush 15) 2 8 := ⟨by decide +kernel, rfl⟩
theorem d_X1_withoutRow_8 : q_dec prog_3_method_5_code 8 (.if_icmp .le 5) 3 11 := ⟨by decide +kernel, rfl⟩
theorem d_X1_withoutRow_11 : q_dec prog_3_method_5_code 11 (.lconst 0) 1 12 := ⟨by decide +kernel, rfl⟩
theorem d_X1_withoutRow_12 : q_dec prog_3_method_5_code 12 (.lreturn) 1 13 := ⟨by decide +kernel, rfl⟩
theorem d_X1_withoutRow_13 : q_dec prog_3_method_5_code 13 (.aload_n 0) 1 14 := ⟨by decide +kernel, rfl⟩
theorem d_X1_withoutRow_14 : q_dec prog_3_method_5_code 14 (.getfield 9) 3 17 := ⟨by decide +kernel, rfl⟩
theorem d_X1_withoutRow_17 : q_dec prog_3_method_5_code 17 (.lconst 0) 1 18 := ⟨by decide +kernel, rfl⟩
theorem d_X1_withoutRow_18 : q_dec prog_3_method_5_code 18 (.invokestatic 26) 3 21 := ⟨by decide +kernel, rfl⟩
theorem d_X1_withoutRow_21 : q_dec prog_3_method_5_code 21 (.aload_n 0) 1 22 := ⟨by decide +kernel, rfl⟩
theorem d_X1_withoutRow_22 : q_dec prog_3_method_5_code 22 (.getfield 9) 3 25 := ⟨by decide +kernel, rfl⟩
theorem d_X1_withoutRow_25 : q_dec prog_3_method_5_code 25 (.iconst 0) 1 26 := ⟨by decide +kernel, rfl⟩
theorem d_X1_withoutRow_26 : q_dec prog_3_method_5_code 26 (.lconst 1) 1 27 := ⟨by decide +kernel, rfl⟩
theorem d_X1_withoutRow_27 : q_dec prog_3_method_5_code 27 (.lastore) 1 28 := ⟨by decide +kernel, rfl⟩
theorem d_X1_withoutRow_28 : q_dec prog_3_method_5_code 28 (.iconst 0) 1 29 := ⟨by decide +kernel, rfl⟩
theorem d_X1_withoutRow_29 : q_dec prog_3_method_5_code 29 (.istore 4) 2 31 := ⟨by decide +kernel, rfl⟩
theorem d_X1_withoutRow_31 : q_dec prog_3_method_5_code 31 (.iload 4) 2 33 := ⟨by decide +kernel, rfl⟩
theorem d_X1_withoutRow_33 : q_dec prog_3_method_5_code 33 (.iload_n 1) 1 34 := ⟨by decide +kernel, rfl⟩
theorem d_X1_withoutRow_34 : q_dec prog_3_method_5_code 34 (.if_icmp .ge 65) 3 37 := ⟨by decide +kernel, rfl⟩
theorem d_X1_withoutRow_37 : q_dec prog_3_method_5_code 37 (.aload_n 0) 1 38 := ⟨by decide +kernel, rfl⟩
theorem d_X1_withoutRow_38 : q_dec prog_3_method_5_code 38 (.iload_n 3) 1 39 := ⟨by decide +kernel, rfl⟩
theorem d_X1_withoutRow_39 : q_dec prog_3_method_5_code 39 (.invokevirtual 32) 3 42 := ⟨by decide +kernel, rfl⟩
theorem d_X1_withoutRow_42 : q_dec prog_3_method_5_code 42 (.lstore 5) 2 44 := ⟨by decide +kernel, rfl⟩
theorem d_X1_withoutRow_44 : q_dec prog_3_method_5_code 44 (.iload_n 3) 1 45 := ⟨by decide +kernel, rfl⟩
theorem d_X1_withoutRow_45 : q_dec prog_3_method_5_code 45 (.iconst 1) 1 46 := ⟨by decide +kernel, rfl⟩
theorem d_X1_withoutRow_46 : q_dec prog_3_method_5_code 46 (.isub) 1 47 := ⟨by decide +kernel, rfl⟩
theorem d_X1_withoutRow_47 : q_dec prog_3_method_5_code 47 (.istore 7) 2 49 := ⟨by decide +kernel, rfl⟩
theorem d_X1_withoutRow_49 : q_dec prog_3_method_5_code 49 (.iload 7) 2 51 := ⟨by decide +kernel, rfl⟩
theorem d_X1_withoutRow_51 : q_dec prog_3_method_5_code 51 (.ifCond .le 28) 3 54 := ⟨by decide +kernel, rfl⟩
theorem d_X1_withoutRow_54 : q_dec prog_3_method_5_code 54 (.aload_n 0) 1 55 := ⟨by decide +kernel, rfl⟩
theorem d_X1_withoutRow_55 : q_dec prog_3_method_5_code 55 (.getfield 9) 3 58 := ⟨by decide +kernel, rfl⟩
theorem d_X1_withoutRow_58 : q_dec prog_3_method_5_code 58 (.iload 7) 2 60 := ⟨by decide +kernel, rfl⟩
theorem d_X1_withoutRow_60 : q_dec prog_3_method_5_code 60 (.aload_n 0) 1 61 := ⟨by decide +kernel, rfl⟩
theorem d_X1_withoutRow_61 : q_dec prog_3_method_5_code 61 (.getfield 9) 3 64 := ⟨by decide +kernel, rfl⟩
theorem d_X1_withoutRow_64 : q_dec prog_3_method_5_code 64 (.iload 7) 2 66 := ⟨by decide +kernel, rfl⟩
theorem d_X1_withoutRow_66 : q_dec prog_3_method_5_code 66 (.iconst 1) 1 67 := ⟨by decide +kernel, rfl⟩
theorem d_X1_withoutRow_67 : q_dec prog_3_method_5_code 67 (.isub) 1 68 := ⟨by decide +kernel, rfl⟩
theorem d_X1_withoutRow_68 : q_dec prog_3_method_5_code 68 (.laload) 1 69 := ⟨by decide +kernel, rfl⟩
theorem d_X1_withoutRow_69 : q_dec prog_3_method_5_code 69 (.iload_n 2) 1 70 := ⟨by decide +kernel, rfl⟩
theorem d_X1_withoutRow_70 : q_dec prog_3_method_5_code 70 (.i2l) 1 71 := ⟨by decide +kernel, rfl⟩
theorem d_X1_withoutRow_71 : q_dec prog_3_method_5_code 71 (.lmul) 1 72 := ⟨by decide +kernel, rfl⟩
theorem d_X1_withoutRow_72 : q_dec prog_3_method_5_code 72 (.lastore) 1 73 := ⟨by decide +kernel, rfl⟩
theorem d_X1_withoutRow_73 : q_dec prog_3_method_5_code 73 (.iinc 7 (-1)) 3 76 := ⟨by decide +kernel, rfl⟩
theorem d_X1_withoutRow_76 : q_dec prog_3_method_5_code 76 (.goto (-27)) 3 79 := ⟨by decide +kernel, rfl⟩
theorem d_X1_withoutRow_79 : q_dec prog_3_method_5_code 79 (.aload_n 0) 1 80 := ⟨by decide +kernel, rfl⟩
theorem d_X1_withoutRow_80 : q_dec prog_3_method_5_code 80 (.getfield 9) 3 83 := ⟨by decide +kernel, rfl⟩
theorem d_X1_withoutRow_83 : q_dec prog_3_method_5_code 83 (.iconst 0) 1 84 := ⟨by decide +kernel, rfl⟩
theorem d_X1_withoutRow_84 : q_dec prog_3_method_5_code 84 (.lload 5) 2 86 := ⟨by decide +kernel, rfl⟩
theorem d_X1_withoutRow_86 : q_dec prog_3_method_5_code 86 (.bipush 10) 2 88 := ⟨by decide +kernel, rfl⟩
theorem d_X1_withoutRow_88 : q_dec prog_3_method_5_code 88 (.iload_n 2) 1 89 := ⟨by decide +kernel, rfl⟩
theorem d_X1_withoutRow_89 : q_dec prog_3_method_5_code 89 (.isub) 1 90 := ⟨by decide +kernel, rfl⟩
theorem d_X1_withoutRow_90 : q_dec prog_3_method_5_code 90 (.i2l) 1 91 := ⟨by decide +kernel, rfl⟩
theorem d_X1_withoutRow_91 : q_dec prog_3_method_5_code 91 (.lmul) 1 92 := ⟨by decide +kernel, rfl⟩
theorem d_X1_withoutRow_92 : q_dec prog_3_method_5_code 92 (.lastore) 1 93 := ⟨by decide +kernel, rfl⟩
theorem d_X1_withoutRow_93 : q_dec prog_3_method_5_code 93 (.iinc 4 1) 3 96 := ⟨by decide +kernel, rfl⟩
theorem d_X1_withoutRow_96 : q_dec prog_3_method_5_code 96 (.goto (-65)) 3 99 := ⟨by decide +kernel, rfl⟩
theorem d_X1_withoutRow_99 : q_dec prog_3_method_5_code 99 (.aload_n 0) 1 100 := ⟨by decide +kernel, rfl⟩
theorem d_X1_withoutRow_100 : q_dec prog_3_method_5_code 100 (.iload_n 3) 1 101 := ⟨by decide +kernel, rfl⟩
theorem d_X1_withoutRow_101 : q_dec prog_3_method_5_code 101 (.invokevirtual 32) 3 104 := ⟨by decide +kernel, rfl⟩
theorem d_X1_withoutRow_104 : q_dec prog_3_method_5_code 104 (.lreturn) 1 105 := ⟨by decide +kernel, rfl⟩
theorem m_X1_withoutRow : q_wV y_X1_withoutRow prog_3_method_5_code 8 (some .long) 3 := ⟨q_mem 630 (by decide +kernel) (by decide +kernel), q_mem 629 (by decide +kernel) (by decide +kernel), q_memS (n := 1) 12 (by decide +kernel), q_mem 10 (by decide +kernel) (by decide +kernel), by decide +kernel⟩
theorem d_X1_withRow_0 : q_dec prog_3_method_3_code 0 (.iload_n 1) 1 1 := ⟨by decide +kernel, rfl⟩
theorem d_X1_withRow_1 : q_dec prog_3_method_3_code 1 (.invokestatic 15) 3 4 := ⟨by decide +kernel, rfl⟩
theorem d_X1_withRow_4 : q_dec prog_3_method_3_code 4 (.aload_n 0) 1 5 := ⟨by decide +kernel, rfl⟩
theorem d_X1_withRow_5 : q_dec prog_3_method_3_code 5 (.iload_n 1) 1 6 := ⟨by decide +kernel, rfl⟩
theorem d_X1_withRow_6 : q_dec prog_3_method_3_code 6 (.iload_n 2) 1 7 := ⟨by decide +kernel, rfl⟩
theorem d_X1_withRow_7 : q_dec prog_3_method_3_code 7 (.iload_n 3) 1 8 := ⟨by decide +kernel, rfl⟩
theorem d_X1_withRow_8 : q_dec prog_3_method_3_code 8 (.invokevirtual 19) 3 11 := ⟨by decide +kernel, rfl⟩
theorem d_X1_withRow_11 : q_dec prog_3_method_3_code 11 (.lsub) 1 12 := ⟨by decide +kernel, rfl⟩
theorem d_X1_withRow_12 : q_dec prog_3_method_3_code 12 (.lreturn) 1 13 := ⟨by decide +kernel, rfl⟩
theorem m_X1_withRow : q_wV y_X1_withRow prog_3_method_3_code 4 (some .long) 3 := ⟨q_mem 622 (by decide +kernel) (by decide +kernel), q_mem 620 (by decide +kernel) (by decide +kernel), q_mem 621 (by decide +kernel) (by decide +kernel), q_mem 10 (by decide +kernel) (by decide +kernel), by decide +kernel⟩
theorem d_X1_longestRows_0 : q_dec prog_3_method_4_code 0 (.lconst 0) 1 1 := ⟨by decide +kernel, rfl⟩
theorem d_X1_longestRows_1 : q_dec prog_3_method_4_code 1 (.lstore_n 3) 1 2 := ⟨by decide +kernel, rfl⟩
theorem d_X1_longestRows_2 : q_dec prog_3_method_4_code 2 (.iconst 1) 1 3 := ⟨by decide +kernel, rfl⟩
theorem d_X1_longestRows_3 : q_dec prog_3_method_4_code 3 (.istore 5) 2 5 := ⟨by decide +kernel, rfl⟩
theorem d_X1_longestRows_5 : q_dec prog_3_method_4_code 5 (.iload 5) 2 7 := ⟨by decide +kernel, rfl⟩
theorem d_X1_longestRows_7 : q_dec prog_3_method_4_code 7 (.iload_n 1) 1 8 := ⟨by decide +kernel, rfl⟩
theorem d_X1_longestRows_8 : q_dec prog_3_method_4_code 8 (.if_icmp .gt 20) 3 11 := ⟨by decide +kernel, rfl⟩
theorem d_X1_longestRows_11 : q_dec prog_3_method_4_code 11 (.lload_n 3) 1 12 := ⟨by decide +kernel, rfl⟩
theorem d_X1_longestRows_12 : q_dec prog_3_method_4_code 12 (.aload_n 0) 1 13 := ⟨by decide +kernel, rfl⟩
theorem d_X1_longestRows_13 : q_dec prog_3_method_4_code 13 (.iload_n 1) 1 14 := ⟨by decide +kernel, rfl⟩
theorem d_X1_longestRows_14 : q_dec prog_3_method_4_code 14 (.iload_n 2) 1 15 := ⟨by decide +kernel, rfl⟩
theorem d_X1_longestRows_15 : q_dec prog_3_method_4_code 15 (.iload 5) 2 17 := ⟨by decide +kernel, rfl⟩
theorem d_X1_longestRows_17 : q_dec prog_3_method_4_code 17 (.invokevirtual 23) 3 20 := ⟨by decide +kernel, rfl⟩
theorem d_X1_longestRows_20 : q_dec prog_3_method_4_code 20 (.ladd) 1 21 := ⟨by decide +kernel, rfl⟩
theorem d_X1_longestRows_21 : q_dec prog_3_method_4_code 21 (.lstore_n 3) 1 22 := ⟨by decide +kernel, rfl⟩
theorem d_X1_longestRows_22 : q_dec prog_3_method_4_code 22 (.iinc 5 1) 3 25 := ⟨by decide +kernel, rfl⟩
theorem d_X1_longestRows_25 : q_dec prog_3_method_4_code 25 (.goto (-20)) 3 28 := ⟨by decide +kernel, rfl⟩
theorem d_X1_longestRows_28 : q_dec prog_3_method_4_code 28 (.lload_n 3) 1 29 := ⟨by decide +kernel, rfl⟩
theorem d_X1_longestRows_29 : q_dec prog_3_method_4_code 29 (.lreturn) 1 30 := ⟨by decide +kernel, rfl⟩
theorem m_X1_longestRows : q_wV y_X1_longestRows prog_3_method_4_code 6 (some .long) 2 := ⟨q_mem 641 (by decide +kernel) (by decide +kernel), q_mem 639 (by decide +kernel) (by decide +kernel), q_mem 640 (by decide +kernel) (by decide +kernel), q_mem 10 (by decide +kernel) (by decide +kernel), by decide +kernel⟩
theorem d_X4_cellAt_0 : q_dec prog_6_method_8_code 0 (.iload_n 0) 1 1 := ⟨by decide +kernel, rfl⟩
theorem d_X4_cellAt_1 : q_dec prog_6_method_8_code 1 (.bipush 70) 2 3 := ⟨by decide +kernel, rfl⟩
theorem d_X4_cellAt_3 : q_dec prog_6_method_8_code 3 (.idiv) 1 4 := ⟨by decide +kernel, rfl⟩
theorem d_X4_cellAt_4 : q_dec prog_6_method_8_code 4 (.istore_n 2) 1 5 := ⟨by decide +kernel, rfl⟩
theorem d_X4_cellAt_5 : q_dec prog_6_method_8_code 5 (.iload_n 0) 1 6 := ⟨by decide +kernel, rfl⟩
theorem d_X4_cellAt_6 : q_dec prog_6_method_8_code 6 (.bipush 10) 2 8 := ⟨by decide +kernel, rfl⟩
theorem d_X4_cellAt_8 : q_dec prog_6_method_8_code 8 (.idiv) 1 9 := ⟨by decide +kernel, rfl⟩
theorem d_X4_cellAt_9 : q_dec prog_6_method_8_code 9 (.bipush 7) 2 11 := ⟨by decide +kernel, rfl⟩
theorem d_X4_cellAt_11 : q_dec prog_6_method_8_code 11 (.irem) 1 12 := ⟨by decide +kernel, rfl⟩
theorem d_X4_cellAt_12 : q_dec prog_6_method_8_code 12 (.iconst 3) 1 13 := ⟨by decide +kernel, rfl⟩
theorem d_X4_cellAt_13 : q_dec prog_6_method_8_code 13 (.isub) 1 14 := ⟨by decide +kernel, rfl⟩
theorem d_X4_cellAt_14 : q_dec prog_6_method_8_code 14 (.istore_n 3) 1 15 := ⟨by decide +kernel, rfl⟩
theorem d_X4_cellAt_15 : q_dec prog_6_method_8_code 15 (.iload_n 0) 1 16 := ⟨by decide +kernel, rfl⟩
theorem d_X4_cellAt_16 : q_dec prog_6_method_8_code 16 (.bipush 10) 2 18 := ⟨by decide +kernel, rfl⟩
theorem d_X4_cellAt_18 : q_dec prog_6_method_8_code 18 (.irem) 1 19 := ⟨by decide +kernel, rfl⟩
theorem d_X4_cellAt_19 : q_dec prog_6_method_8_code 19 (.istore 4) 2 21 := ⟨by decide +kernel, rfl⟩
theorem d_X4_cellAt_21 : q_dec prog_6_method_8_code 21 (.iload_n 2) 1 22 := ⟨by decide +kernel, rfl⟩
theorem d_X4_cellAt_22 : q_dec prog_6_method_8_code 22 (.iload_n 3) 1 23 := ⟨by decide +kernel, rfl⟩
theorem d_X4_cellAt_23 : q_dec prog_6_method_8_code 23 (.iload_n 1) 1 24 := ⟨by decide +kernel, rfl⟩
theorem d_X4_cellAt_24 : q_dec prog_6_method_8_code 24 (.iload 4) 2 26 := ⟨by decide +kernel, rfl⟩
theorem d_X4_cellAt_26 : q_dec prog_6_method_8_code 26 (.isub) 1 27 := ⟨by decide +kernel, rfl⟩
theorem d_X4_cellAt_27 : q_dec prog_6_method_8_code 27 (.imul) 1 28 := ⟨by decide +kernel, rfl⟩
theorem d_X4_cellAt_28 : q_dec prog_6_method_8_code 28 (.iadd) 1 29 := ⟨by decide +kernel, rfl⟩
theorem d_X4_cellAt_29 : q_dec prog_6_method_8_code 29 (.bipush 20) 2 31 := ⟨by decide +kernel, rfl⟩
theorem d_X4_cellAt_31 : q_dec prog_6_method_8_code 31 (.invokestatic 60) 3 34 := ⟨by decide +kernel, rfl⟩
theorem d_X4_cellAt_34 : q_dec prog_6_method_8_code 34 (.ireturn) 1 35 := ⟨by decide +kernel, rfl⟩
theorem m_X4_cellAt : q_wS y_X4_cellAt prog_6_method_8_code 5 (some .int) 2 := ⟨q_mem 574 (by decide +kernel) (by decide +kernel), q_mem 573 (by decide +kernel) (by decide +kernel), q_mem 9 (by decide +kernel) (by decide +kernel), by decide +kernel⟩
theorem d_X4_isFit_0 : q_dec prog_6_method_7_code 0 (.iconst 0) 1 1 := ⟨by decide +kernel, rfl⟩
theorem d_X4_isFit_1 : q_dec prog_6_method_7_code 1 (.istore_n 2) 1 2 := ⟨by decide +kernel, rfl⟩
theorem d_X4_isFit_2 : q_dec prog_6_method_7_code 2 (.iload_n 2) 1 3 := ⟨by decide +kernel, rfl⟩
theorem d_X4_isFit_3 : q_dec prog_6_method_7_code 3 (.aload_n 1) 1 4 := ⟨by decide +kernel, rfl⟩
theorem d_X4_isFit_4 : q_dec prog_6_method_7_code 4 (.getfield 49) 3 7 := ⟨by decide +kernel, rfl⟩
theorem d_X4_isFit_7 : q_dec prog_6_method_7_code 7 (.if_icmp .ge 36) 3 10 := ⟨by decide +kernel, rfl⟩
theorem d_X4_isFit_10 : q_dec prog_6_method_7_code 10 (.iload_n 2) 1 11 := ⟨by decide +kernel, rfl⟩
theorem d_X4_isFit_11 : q_dec prog_6_method_7_code 11 (.bipush 8) 2 13 := ⟨by decide +kernel, rfl⟩
theorem d_X4_isFit_13 : q_dec prog_6_method_7_code 13 (.if_icmp .ge 30) 3 16 := ⟨by decide +kernel, rfl⟩
theorem d_X4_isFit_16 : q_dec prog_6_method_7_code 16 (.iload_n 0) 1 17 := ⟨by decide +kernel, rfl⟩
theorem d_X4_isFit_17 : q_dec prog_6_method_7_code 17 (.aload_n 1) 1 18 := ⟨by decide +kernel, rfl⟩
theorem d_X4_isFit_18 : q_dec prog_6_method_7_code 18 (.getfield 54) 3 21 := ⟨by decide +kernel, rfl⟩
theorem d_X4_isFit_21 : q_dec prog_6_method_7_code 21 (.iload_n 2) 1 22 := ⟨by decide +kernel, rfl⟩
theorem d_X4_isFit_22 : q_dec prog_6_method_7_code 22 (.iaload) 1 23 := ⟨by decide +kernel, rfl⟩
theorem d_X4_isFit_23 : q_dec prog_6_method_7_code 23 (.invokestatic 40) 3 26 := ⟨by decide +kernel, rfl⟩
theorem d_X4_isFit_26 : q_dec prog_6_method_7_code 26 (.aload_n 1) 1 27 := ⟨by decide +kernel, rfl⟩
theorem d_X4_isFit_27 : q_dec prog_6_method_7_code 27 (.getfield 57) 3 30 := ⟨by decide +kernel, rfl⟩
theorem d_X4_isFit_30 : q_dec prog_6_method_7_code 30 (.iload_n 2) 1 31 := ⟨by decide +kernel, rfl⟩
theorem d_X4_isFit_31 : q_dec prog_6_method_7_code 31 (.iaload) 1 32 := ⟨by decide +kernel, rfl⟩
theorem d_X4_isFit_32 : q_dec prog_6_method_7_code 32 (.if_icmp .eq 5) 3 35 := ⟨by decide +kernel, rfl⟩
theorem d_X4_isFit_35 : q_dec prog_6_method_7_code 35 (.iconst 0) 1 36 := ⟨by decide +kernel, rfl⟩
theorem d_X4_isFit_36 : q_dec prog_6_method_7_code 36 (.ireturn) 1 37 := ⟨by decide +kernel, rfl⟩
theorem d_X4_isFit_37 : q_dec prog_6_method_7_code 37 (.iinc 2 1) 3 40 := ⟨by decide +kernel, rfl⟩
theorem d_X4_isFit_40 : q_dec prog_6_method_7_code 40 (.goto (-38)) 3 43 := ⟨by decide +kernel, rfl⟩
theorem d_X4_isFit_43 : q_dec prog_6_method_7_code 43 (.iconst 1) 1 44 := ⟨by decide +kernel, rfl⟩
theorem d_X4_isFit_44 : q_dec prog_6_method_7_code 44 (.ireturn) 1 45 := ⟨by decide +kernel, rfl⟩
theorem m_X4_isFit : q_wS y_X4_isFit prog_6_method_7_code 3 (some .boolean) 2 := ⟨q_mem 571 (by decide +kernel) (by decide +kernel), q_mem 570 (by decide +kernel) (by decide +kernel), q_mem 9 (by decide +kernel) (by decide +kernel), by decide +kernel⟩
theorem d_X4_countFits_0 : q_dec prog_6_method_2_code 0 (.iconst 0) 1 1 := ⟨by decide +kernel, rfl⟩
theorem d_X4_countFits_1 : q_dec prog_6_method_2_code 1 (.istore_n 2) 1 2 := ⟨by decide +kernel, rfl⟩
theorem d_X4_countFits_2 : q_dec prog_6_method_2_code 2 (.iconst 0) 1 3 := ⟨by decide +kernel, rfl⟩
theorem d_X4_countFits_3 : q_dec prog_6_method_2_code 3 (.istore_n 3) 1 4 := ⟨by decide +kernel, rfl⟩
theorem d_X4_countFits_4 : q_dec prog_6_method_2_code 4 (.iload_n 3) 1 5 := ⟨by decide +kernel, rfl⟩
theorem d_X4_countFits_5 : q_dec prog_6_method_2_code 5 (.sipush 1400) 3 8 := ⟨by decide +kernel, rfl⟩
theorem d_X4_countFits_8 : q_dec prog_6_method_2_code 8 (.if_icmp .ge 25) 3 11 := ⟨by decide +kernel, rfl⟩
theorem d_X4_countFits_11 : q_dec prog_6_method_2_code 11 (.iload_n 2) 1 12 := ⟨by decide +kernel, rfl⟩
theorem d_X4_countFits_12 : q_dec prog_6_method_2_code 12 (.iload_n 3) 1 13 := ⟨by decide +kernel, rfl⟩
theorem d_X4_countFits_13 : q_dec prog_6_method_2_code 13 (.aload_n 1) 1 14 := ⟨by decide +kernel, rfl⟩
theorem d_X4_countFits_14 : q_dec prog_6_method_2_code 14 (.invokestatic 15) 3 17 := ⟨by decide +kernel, rfl⟩
theorem d_X4_countFits_17 : q_dec prog_6_method_2_code 17 (.ifCond .eq 7) 3 20 := ⟨by decide +kernel, rfl⟩
theorem d_X4_countFits_20 : q_dec prog_6_method_2_code 20 (.iconst 1) 1 21 := ⟨by decide +kernel, rfl⟩
theorem d_X4_countFits_21 : q_dec prog_6_method_2_code 21 (.goto 4) 3 24 := ⟨by decide +kernel, rfl⟩
theorem d_X4_countFits_24 : q_dec prog_6_method_2_code 24 (.iconst 0) 1 25 := ⟨by decide +kernel, rfl⟩
theorem d_X4_countFits_25 : q_dec prog_6_method_2_code 25 (.iadd) 1 26 := ⟨by decide +kernel, rfl⟩
theorem d_X4_countFits_26 : q_dec prog_6_method_2_code 26 (.istore_n 2) 1 27 := ⟨by decide +kernel, rfl⟩
theorem d_X4_countFits_27 : q_dec prog_6_method_2_code 27 (.iinc 3 1) 3 30 := ⟨by decide +kernel, rfl⟩
theorem d_X4_countFits_30 : q_dec prog_6_method_2_code 30 (.goto (-26)) 3 33 := ⟨by decide +kernel, rfl⟩
theorem d_X4_countFits_33 : q_dec prog_6_method_2_code 33 (.iload_n 2) 1 34 := ⟨by decide +kernel, rfl⟩
theorem d_X4_countFits_34 : q_dec prog_6_method_2_code 34 (.ireturn) 1 35 := ⟨by decide +kernel, rfl⟩
theorem m_X4_countFits : q_wV y_X4_countFits prog_6_method_2_code 4 (some .int) 1 := ⟨q_mem 568 (by decide +kernel) (by decide +kernel), q_mem 566 (by decide +kernel) (by decide +kernel), q_mem 567 (by decide +kernel) (by decide +kernel), q_mem 9 (by decide +kernel) (by decide +kernel), by decide +kernel⟩
theorem d_X4_fitAt_0 : q_dec prog_6_method_3_code 0 (.iconst 0) 1 1 := ⟨by decide +kernel, rfl⟩
theorem d_X4_fitAt_1 : q_dec prog_6_method_3_code 1 (.istore_n 3) 1 2 := ⟨by decide +kernel, rfl⟩
theorem d_X4_fitAt_2 : q_dec prog_6_method_3_code 2 (.iconst 0) 1 3 := ⟨by decide +kernel, rfl⟩
theorem d_X4_fitAt_3 : q_dec prog_6_method_3_code 3 (.istore 4) 2 5 := ⟨by decide +kernel, rfl⟩
theorem d_X4_fitAt_5 : q_dec prog_6_method_3_code 5 (.iload 4) 2 7 := ⟨by decide +kernel, rfl⟩
theorem d_X4_fitAt_7 : q_dec prog_6_method_3_code 7 (.sipush 1400) 3 10 := ⟨by decide +kernel, rfl⟩
theorem d_X4_fitAt_10 : q_dec prog_6_method_3_code 10 (.if_icmp .ge 49) 3 13 := ⟨by decide +kernel, rfl⟩
theorem d_X4_fitAt_13 : q_dec prog_6_method_3_code 13 (.iload_n 2) 1 14 := ⟨by decide +kernel, rfl⟩
theorem d_X4_fitAt_14 : q_dec prog_6_method_3_code 14 (.ifCond .lt 45) 3 17 := ⟨by decide +kernel, rfl⟩
theorem d_X4_fitAt_17 : q_dec prog_6_method_3_code 17 (.iload 4) 2 19 := ⟨by decide +kernel, rfl⟩
theorem d_X4_fitAt_19 : q_dec prog_6_method_3_code 19 (.aload_n 1) 1 20 := ⟨by decide +kernel, rfl⟩
theorem d_X4_fitAt_20 : q_dec prog_6_method_3_code 20 (.invokestatic 15) 3 23 := ⟨by decide +kernel, rfl⟩
theorem d_X4_fitAt_23 : q_dec prog_6_method_3_code 23 (.ifCond .ne 6) 3 26 := ⟨by decide +kernel, rfl⟩
theorem d_X4_fitAt_26 : q_dec prog_6_method_3_code 26 (.goto 27) 3 29 := ⟨by decide +kernel, rfl⟩
theorem d_X4_fitAt_29 : q_dec prog_6_method_3_code 29 (.iload_n 3) 1 30 := ⟨by decide +kernel, rfl⟩
theorem d_X4_fitAt_30 : q_dec prog_6_method_3_code 30 (.iload_n 2) 1 31 := ⟨by decide +kernel, rfl⟩
theorem d_X4_fitAt_31 : q_dec prog_6_method_3_code 31 (.if_icmp .ne 19) 3 34 := ⟨by decide +kernel, rfl⟩
theorem d_X4_fitAt_34 : q_dec prog_6_method_3_code 34 (.sipush 1000) 3 37 := ⟨by decide +kernel, rfl⟩
theorem d_X4_fitAt_37 : q_dec prog_6_method_3_code 37 (.iload 4) 2 39 := ⟨by decide +kernel, rfl⟩
theorem d_X4_fitAt_39 : q_dec prog_6_method_3_code 39 (.bipush 70) 2 41 := ⟨by decide +kernel, rfl⟩
theorem d_X4_fitAt_41 : q_dec prog_6_method_3_code 41 (.idiv) 1 42 := ⟨by decide +kernel, rfl⟩
theorem d_X4_fitAt_42 : q_dec prog_6_method_3_code 42 (.imul) 1 43 := ⟨by decide +kernel, rfl⟩
theorem d_X4_fitAt_43 : q_dec prog_6_method_3_code 43 (.iload 4) 2 45 := ⟨by decide +kernel, rfl⟩
theorem d_X4_fitAt_45 : q_dec prog_6_method_3_code 45 (.bipush 70) 2 47 := ⟨by decide +kernel, rfl⟩
theorem d_X4_fitAt_47 : q_dec prog_6_method_3_code 47 (.irem) 1 48 := ⟨by decide +kernel, rfl⟩
theorem d_X4_fitAt_48 : q_dec prog_6_method_3_code 48 (.iadd) 1 49 := ⟨by decide +kernel, rfl⟩
theorem d_X4_fitAt_49 : q_dec prog_6_method_3_code 49 (.ireturn) 1 50 := ⟨by decide +kernel, rfl⟩
theorem d_X4_fitAt_50 : q_dec prog_6_method_3_code 50 (.iinc 3 1) 3 53 := ⟨by decide +kernel, rfl⟩
theorem d_X4_fitAt_53 : q_dec prog_6_method_3_code 53 (.iinc 4 1) 3 56 := ⟨by decide +kernel, rfl⟩
theorem d_X4_fitAt_56 : q_dec prog_6_method_3_code 56 (.goto (-51)) 3 59 := ⟨by decide +kernel, rfl⟩
theorem d_X4_fitAt_59 : q_dec prog_6_method_3_code 59 (.bipush (-6)) 2 61 := ⟨by decide +kernel, rfl⟩
theorem d_X4_fitAt_61 : q_dec prog_6_method_3_code 61 (.ireturn) 1 62 := ⟨by decide +kernel, rfl⟩
theorem m_X4_fitAt : q_wV y_X4_fitAt prog_6_method_3_code 5 (some .int) 2 := ⟨q_mem 581 (by decide +kernel) (by decide +kernel), q_mem 579 (by decide +kernel) (by decide +kernel), q_mem 580 (by decide +kernel) (by decide +kernel), q_mem 9 (by decide +kernel) (by decide +kernel), by decide +kernel⟩
theorem d_X4_fillCrowds_0 : q_dec prog_6_method_5_code 0 (.aload_n 0) 1 1 := ⟨by decide +kernel, rfl⟩
theorem d_X4_fillCrowds_1 : q_dec prog_6_method_5_code 1 (.getfield 11) 3 4 := ⟨by decide +kernel, rfl⟩
theorem d_X4_fillCrowds_4 : q_dec prog_6_method_5_code 4 (.iconst 0) 1 5 := ⟨by decide +kernel, rfl⟩
theorem d_X4_fillCrowds_5 : q_dec prog_6_method_5_code 5 (.invokestatic 34) 3 8 := ⟨by decide +kernel, rfl⟩
theorem d_X4_fillCrowds_8 : q_dec prog_6_method_5_code 8 (.iconst 0) 1 9 := ⟨by decide +kernel, rfl⟩
theorem d_X4_fillCrowds_9 : q_dec prog_6_method_5_code 9 (.istore_n 2) 1 10 := ⟨by decide +kernel, rfl⟩
theorem d_X4_fillCrowds_10 : q_dec prog_6_method_5_code 10 (.iload_n 2) 1 11 := ⟨by decide +kernel, rfl⟩
theorem d_X4_fillCrowds_11 : q_dec prog_6_method_5_code 11 (.sipush 1400) 3 14 := ⟨by decide +kernel, rfl⟩
theorem d_X4_fillCrowds_14 : q_dec prog_6_method_5_code 14 (.if_icmp .ge 50) 3 17 := ⟨by decide +kernel, rfl⟩
theorem d_X4_fillCrowds_17 : q_dec prog_6_method_5_code 17 (.iload_n 2) 1 18 := ⟨by decide +kernel, rfl⟩
theorem d_X4_fillCrowds_18 : q_dec prog_6_method_5_code 18 (.aload_n 1) 1 19 := ⟨by decide +kernel, rfl⟩
theorem d_X4_fillCrowds_19 : q_dec prog_6_method_5_code 19 (.invokestatic 15) 3 22 := ⟨by decide +kernel, rfl⟩
theorem d_X4_fillCrowds_22 : q_dec prog_6_method_5_code 22 (.ifCond .eq 36) 3 25 := ⟨by decide +kernel, rfl⟩
theorem d_X4_fillCrowds_25 : q_dec prog_6_method_5_code 25 (.iconst 0) 1 26 := ⟨by decide +kernel, rfl⟩
theorem d_X4_fillCrowds_26 : q_dec prog_6_method_5_code 26 (.istore_n 3) 1 27 := ⟨by decide +kernel, rfl⟩
theorem d_X4_fillCrowds_27 : q_dec prog_6_method_5_code 27 (.iload_n 3) 1 28 := ⟨by decide +kernel, rfl⟩
theorem d_X4_fillCrowds_28 : q_dec prog_6_method_5_code 28 (.bipush 20) 2 30 := ⟨by decide +kernel, rfl⟩
theorem d_X4_fillCrowds_30 : q_dec prog_6_method_5_code 30 (.if_icmp .ge 28) 3 33 := ⟨by decide +kernel, rfl⟩
theorem d_X4_fillCrowds_33 : q_dec prog_6_method_5_code 33 (.aload_n 0) 1 34 := ⟨by decide +kernel, rfl⟩
theorem d_X4_fillCrowds_34 : q_dec prog_6_method_5_code 34 (.getfield 11) 3 37 := ⟨by decide +kernel, rfl⟩
theorem d_X4_fillCrowds_37 : q_dec prog_6_method_5_code 37 (.iload_n 3) 1 38 := ⟨by decide +kernel, rfl⟩
theorem d_X4_fillCrowds_38 : q_dec prog_6_method_5_code 38 (.bipush 20) 2 40 := ⟨by decide +kernel, rfl⟩
theorem d_X4_fillCrowds_40 : q_dec prog_6_method_5_code 40 (.imul) 1 41 := ⟨by decide +kernel, rfl⟩
theorem d_X4_fillCrowds_41 : q_dec prog_6_method_5_code 41 (.iload_n 2) 1 42 := ⟨by decide +kernel, rfl⟩
theorem d_X4_fillCrowds_42 : q_dec prog_6_method_5_code 42 (.iload_n 3) 1 43 := ⟨by decide +kernel, rfl⟩
theorem d_X4_fillCrowds_43 : q_dec prog_6_method_5_code 43 (.invokestatic 40) 3 46 := ⟨by decide +kernel, rfl⟩
theorem d_X4_fillCrowds_46 : q_dec prog_6_method_5_code 46 (.iadd) 1 47 := ⟨by decide +kernel, rfl⟩
theorem d_X4_fillCrowds_47 : q_dec prog_6_method_5_code 47 (.dup2) 1 48 := ⟨by decide +kernel, rfl⟩
theorem d_X4_fillCrowds_48 : q_dec prog_6_method_5_code 48 (.iaload) 1 49 := ⟨by decide +kernel, rfl⟩
theorem d_X4_fillCrowds_49 : q_dec prog_6_method_5_code 49 (.iconst 1) 1 50 := ⟨by decide +kernel, rfl⟩
theorem d_X4_fillCrowds_50 : q_dec prog_6_method_5_code 50 (.iadd) 1 51 := ⟨by decide +kernel, rfl⟩
theorem d_X4_fillCrowds_51 : q_dec prog_6_method_5_code 51 (.iastore) 1 52 := ⟨by decide +kernel, rfl⟩
theorem d_X4_fillCrowds_52 : q_dec prog_6_method_5_code 52 (.iinc 3 1) 3 55 := ⟨by decide +kernel, rfl⟩
theorem d_X4_fillCrowds_55 : q_dec prog_6_method_5_code 55 (.goto (-28)) 3 58 := ⟨by decide +kernel, rfl⟩
theorem d_X4_fillCrowds_58 : q_dec prog_6_method_5_code 58 (.iinc 2 1) 3 61 := ⟨by decide +kernel, rfl⟩
theorem d_X4_fillCrowds_61 : q_dec prog_6_method_5_code 61 (.goto (-51)) 3 64 := ⟨by decide +kernel, rfl⟩
theorem d_X4_fillCrowds_64 : q_dec prog_6_method_5_code 64 (.return_) 1 65 := ⟨by decide +kernel, rfl⟩
theorem m_X4_fillCrowds : q_wV y_X4_fillCrowds prog_6_method_5_code 4 none 1 := ⟨q_mem 593 (by decide +kernel) (by decide +kernel), q_mem 592 (by decide +kernel) (by decide +kernel), q_memS (n := 3) 10 (by decide +kernel), q_mem 9 (by decide +kernel) (by decide +kernel), by decide +kernel⟩
theorem d_X4_greatestCrowd_0 : q_dec prog_6_method_6_code 0 (.iconst 0) 1 1 := ⟨by decide +kernel, rfl⟩
theorem d_X4_greatestCrowd_1 : q_dec prog_6_method_6_code 1 (.istore_n 2) 1 2 := ⟨by decide +kernel, rfl⟩
theorem d_X4_greatestCrowd_2 : q_dec prog_6_method_6_code 2 (.iconst 0) 1 3 := ⟨by decide +kernel, rfl⟩
theorem d_X4_greatestCrowd_3 : q_dec prog_6_method_6_code 3 (.istore_n 3) 1 4 := ⟨by decide +kernel, rfl⟩
theorem d_X4_greatestCrowd_4 : q_dec prog_6_method_6_code 4 (.iload_n 3) 1 5 := ⟨by decide +kernel, rfl⟩
theorem d_X4_greatestCrowd_5 : q_dec prog_6_method_6_code 5 (.bipush 20) 2 7 := ⟨by decide +kernel, rfl⟩
theorem d_X4_greatestCrowd_7 : q_dec prog_6_method_6_code 7 (.if_icmp .ge 25) 3 10 := ⟨by decide +kernel, rfl⟩
theorem d_X4_greatestCrowd_10 : q_dec prog_6_method_6_code 10 (.iload_n 2) 1 11 := ⟨by decide +kernel, rfl⟩
theorem d_X4_greatestCrowd_11 : q_dec prog_6_method_6_code 11 (.aload_n 0) 1 12 := ⟨by decide +kernel, rfl⟩
theorem d_X4_greatestCrowd_12 : q_dec prog_6_method_6_code 12 (.getfield 11) 3 15 := ⟨by decide +kernel, rfl⟩
theorem d_X4_greatestCrowd_15 : q_dec prog_6_method_6_code 15 (.iload_n 1) 1 16 := ⟨by decide +kernel, rfl⟩
theorem d_X4_greatestCrowd_16 : q_dec prog_6_method_6_code 16 (.bipush 20) 2 18 := ⟨by decide +kernel, rfl⟩
theorem d_X4_greatestCrowd_18 : q_dec prog_6_method_6_code 18 (.imul) 1 19 := ⟨by decide +kernel, rfl⟩
theorem d_X4_greatestCrowd_19 : q_dec prog_6_method_6_code 19 (.iload_n 3) 1 20 := ⟨by decide +kernel, rfl⟩
theorem d_X4_greatestCrowd_20 : q_dec prog_6_method_6_code 20 (.iadd) 1 21 := ⟨by decide +kernel, rfl⟩
theorem d_X4_greatestCrowd_21 : q_dec prog_6_method_6_code 21 (.iaload) 1 22 := ⟨by decide +kernel, rfl⟩
theorem d_X4_greatestCrowd_22 : q_dec prog_6_method_6_code 22 (.invokestatic 44) 3 25 := ⟨by decide +kernel, rfl⟩
theorem d_X4_greatestCrowd_25 : q_dec prog_6_method_6_code 25 (.istore_n 2) 1 26 := ⟨by decide +kernel, rfl⟩
theorem d_X4_greatestCrowd_26 : q_dec prog_6_method_6_code 26 (.iinc 3 1) 3 29 := ⟨by decide +kernel, rfl⟩
theorem d_X4_greatestCrowd_29 : q_dec prog_6_method_6_code 29 (.goto (-25)) 3 32 := ⟨by decide +kernel, rfl⟩
theorem d_X4_greatestCrowd_32 : q_dec prog_6_method_6_code 32 (.iload_n 2) 1 33 := ⟨by decide +kernel, rfl⟩
theorem d_X4_greatestCrowd_33 : q_dec prog_6_method_6_code 33 (.ireturn) 1 34 := ⟨by decide +kernel, rfl⟩
theorem m_X4_greatestCrowd : q_wV y_X4_greatestCrowd prog_6_method_6_code 4 (some .int) 1 := ⟨q_mem 598 (by decide +kernel) (by decide +kernel), q_mem 597 (by decide +kernel) (by decide +kernel), q_memS (n := 3) 11 (by decide +kernel), q_mem 9 (by decide +kernel) (by decide +kernel), by decide +kernel⟩
theorem d_X4_seekQuestion_0 : q_dec prog_6_method_4_code 0 (.aload_n 0) 1 1 := ⟨by decide +kernel, rfl⟩
theorem d_X4_seekQuestion_1 : q_dec prog_6_method_4_code 1 (.aload_n 1) 1 2 := ⟨by decide +kernel, rfl⟩
theorem d_X4_seekQuestion_2 : q_dec prog_6_method_4_code 2 (.invokevirtual 19) 3 5 := ⟨by decide +kernel, rfl⟩
theorem d_X4_seekQuestion_5 : q_dec prog_6_method_4_code 5 (.aload_n 0) 1 6 := ⟨by decide +kernel, rfl⟩
theorem d_X4_seekQuestion_6 : q_dec prog_6_method_4_code 6 (.bipush (-6)) 2 8 := ⟨by decide +kernel, rfl⟩
theorem d_X4_seekQuestion_8 : q_dec prog_6_method_4_code 8 (.putfield 23) 3 11 := ⟨by decide +kernel, rfl⟩
theorem d_X4_seekQuestion_11 : q_dec prog_6_method_4_code 11 (.aload_n 0) 1 12 := ⟨by decide +kernel, rfl⟩
theorem d_X4_seekQuestion_12 : q_dec prog_6_method_4_code 12 (.bipush (-6)) 2 14 := ⟨by decide +kernel, rfl⟩
theorem d_X4_seekQuestion_14 : q_dec prog_6_method_4_code 14 (.putfield 27) 3 17 := ⟨by decide +kernel, rfl⟩
theorem d_X4_seekQuestion_17 : q_dec prog_6_method_4_code 17 (.iconst 0) 1 18 := ⟨by decide +kernel, rfl⟩
theorem d_X4_seekQuestion_18 : q_dec prog_6_method_4_code 18 (.istore_n 2) 1 19 := ⟨by decide +kernel, rfl⟩
theorem d_X4_seekQuestion_19 : q_dec prog_6_method_4_code 19 (.iload_n 2) 1 20 := ⟨by decide +kernel, rfl⟩
theorem d_X4_seekQuestion_20 : q_dec prog_6_method_4_code 20 (.bipush 20) 2 22 := ⟨by decide +kernel, rfl⟩
theorem d_X4_seekQuestion_22 : q_dec prog_6_method_4_code 22 (.if_icmp .ge 46) 3 25 := ⟨by decide +kernel, rfl⟩
theorem d_X4_seekQuestion_25 : q_dec prog_6_method_4_code 25 (.aload_n 0) 1 26 := ⟨by decide +kernel, rfl⟩
theorem d_X4_seekQuestion_26 : q_dec prog_6_method_4_code 26 (.iload_n 2) 1 27 := ⟨by decide +kernel, rfl⟩
theorem d_X4_seekQuestion_27 : q_dec prog_6_method_4_code 27 (.invokevirtual 30) 3 30 := ⟨by decide +kernel, rfl⟩
theorem d_X4_seekQuestion_30 : q_dec prog_6_method_4_code 30 (.istore_n 3) 1 31 := ⟨by decide +kernel, rfl⟩
theorem d_X4_seekQuestion_31 : q_dec prog_6_method_4_code 31 (.iload_n 3) 1 32 := ⟨by decide +kernel, rfl⟩
theorem d_X4_seekQuestion_32 : q_dec prog_6_method_4_code 32 (.ifCond .le 30) 3 35 := ⟨by decide +kernel, rfl⟩
theorem d_X4_seekQuestion_35 : q_dec prog_6_method_4_code 35 (.aload_n 0) 1 36 := ⟨by decide +kernel, rfl⟩
theorem d_X4_seekQuestion_36 : q_dec prog_6_method_4_code 36 (.getfield 27) 3 39 := ⟨by decide +kernel, rfl⟩
theorem d_X4_seekQuestion_39 : q_dec prog_6_method_4_code 39 (.bipush (-6)) 2 41 := ⟨by decide +kernel, rfl⟩
theorem d_X4_seekQuestion_41 : q_dec prog_6_method_4_code 41 (.if_icmp .eq 11) 3 44 := ⟨by decide +kernel, rfl⟩
theorem d_X4_seekQuestion_44 : q_dec prog_6_method_4_code 44 (.iload_n 3) 1 45 := ⟨by decide +kernel, rfl⟩
theorem d_X4_seekQuestion_45 : q_dec prog_6_method_4_code 45 (.aload_n 0) 1 46 := ⟨by decide +kernel, rfl⟩
theorem d_X4_seekQuestion_46 : q_dec prog_6_method_4_code 46 (.getfield 27) 3 49 := ⟨by decide +kernel, rfl⟩
theorem d_X4_seekQuestion_49 : q_dec prog_6_method_4_code 49 (.if_icmp .ge 13) 3 52 := ⟨by decide +kernel, rfl⟩
theorem d_X4_seekQuestion_52 : q_dec prog_6_method_4_code 52 (.aload_n 0) 1 53 := ⟨by decide +kernel, rfl⟩
theorem d_X4_seekQuestion_53 : q_dec prog_6_method_4_code 53 (.iload_n 2) 1 54 := ⟨by decide +kernel, rfl⟩
theorem d_X4_seekQuestion_54 : q_dec prog_6_method_4_code 54 (.putfield 23) 3 57 := ⟨by decide +kernel, rfl⟩
theorem d_X4_seekQuestion_57 : q_dec prog_6_method_4_code 57 (.aload_n 0) 1 58 := ⟨by decide +kernel, rfl⟩
theorem d_X4_seekQuestion_58 : q_dec prog_6_method_4_code 58 (.iload_n 3) 1 59 := ⟨by decide +kernel, rfl⟩
theorem d_X4_seekQuestion_59 : q_dec prog_6_method_4_code 59 (.putfield 27) 3 62 := ⟨by decide +kernel, rfl⟩
theorem d_X4_seekQuestion_62 : q_dec prog_6_method_4_code 62 (.iinc 2 1) 3 65 := ⟨by decide +kernel, rfl⟩
theorem d_X4_seekQuestion_65 : q_dec prog_6_method_4_code 65 (.goto (-46)) 3 68 := ⟨by decide +kernel, rfl⟩
theorem d_X4_seekQuestion_68 : q_dec prog_6_method_4_code 68 (.return_) 1 69 := ⟨by decide +kernel, rfl⟩
theorem m_X4_seekQuestion : q_wV y_X4_seekQuestion prog_6_method_4_code 4 none 1 := ⟨q_mem 589 (by decide +kernel) (by decide +kernel), q_mem 587 (by decide +kernel) (by decide +kernel), q_mem 588 (by decide +kernel) (by decide +kernel), q_mem 9 (by decide +kernel) (by decide +kernel), by decide +kernel⟩
theorem d_X6_tellAct_0 : q_dec prog_8_method_3_code 0 (.aload_n 0) 1 1 := ⟨by decide +kernel, rfl⟩
theorem d_X6_tellAct_1 : q_dec prog_8_method_3_code 1 (.getfield 12) 3 4 := ⟨by decide +kernel, rfl⟩
theorem d_X6_tellAct_4 : q_dec prog_8_method_3_code 4 (.iload_n 1) 1 5 := ⟨by decide +kernel, rfl⟩
theorem d_X6_tellAct_5 : q_dec prog_8_method_3_code 5 (.iload_n 2) 1 6 := ⟨by decide +kernel, rfl⟩
theorem d_X6_tellAct_6 : q_dec prog_8_method_3_code 6 (.invokevirtual 66) 3 9 := ⟨by decide +kernel, rfl⟩
theorem d_X6_tellAct_9 : q_dec prog_8_method_3_code 9 (.istore_n 3) 1 10 := ⟨by decide +kernel, rfl⟩
theorem d_X6_tellAct_10 : q_dec prog_8_method_3_code 10 (.iload_n 3) 1 11 := ⟨by decide +kernel, rfl⟩
theorem d_X6_tellAct_11 : q_dec prog_8_method_3_code 11 (.ifCond .eq 17) 3 14 := ⟨by decide +kernel, rfl⟩
theorem d_X6_tellAct_14 : q_dec prog_8_method_3_code 14 (.aload_n 0) 1 15 := ⟨by decide +kernel, rfl⟩
theorem d_X6_tellAct_15 : q_dec prog_8_method_3_code 15 (.aload_n 0) 1 16 := ⟨by decide +kernel, rfl⟩
theorem d_X6_tellAct_16 : q_dec prog_8_method_3_code 16 (.getfield 22) 3 19 := ⟨by decide +kernel, rfl⟩
theorem d_X6_tellAct_19 : q_dec prog_8_method_3_code 19 (.putfield 26) 3 22 := ⟨by decide +kernel, rfl⟩
theorem d_X6_tellAct_22 : q_dec prog_8_method_3_code 22 (.aload_n 0) 1 23 := ⟨by decide +kernel, rfl⟩
theorem d_X6_tellAct_23 : q_dec prog_8_method_3_code 23 (.iload_n 3) 1 24 := ⟨by decide +kernel, rfl⟩
theorem d_X6_tellAct_24 : q_dec prog_8_method_3_code 24 (.putfield 29) 3 27 := ⟨by decide +kernel, rfl⟩
theorem d_X6_tellAct_27 : q_dec prog_8_method_3_code 27 (.return_) 1 28 := ⟨by decide +kernel, rfl⟩
theorem d_X6_tellAct_28 : q_dec prog_8_method_3_code 28 (.aload_n 0) 1 29 := ⟨by decide +kernel, rfl⟩
theorem d_X6_tellAct_29 : q_dec prog_8_method_3_code 29 (.getfield 12) 3 32 := ⟨by decide +kernel, rfl⟩
theorem d_X6_tellAct_32 : q_dec prog_8_method_3_code 32 (.iload_n 1) 1 33 := ⟨by decide +kernel, rfl⟩
theorem d_X6_tellAct_33 : q_dec prog_8_method_3_code 33 (.iload_n 2) 1 34 := ⟨by decide +kernel, rfl⟩
theorem d_X6_tellAct_34 : q_dec prog_8_method_3_code 34 (.invokevirtual 70) 3 37 := ⟨by decide +kernel, rfl⟩
theorem d_X6_tellAct_37 : q_dec prog_8_method_3_code 37 (.iload_n 2) 1 38 := ⟨by decide +kernel, rfl⟩
theorem d_X6_tellAct_38 : q_dec prog_8_method_3_code 38 (.bipush 42) 2 40 := ⟨by decide +kernel, rfl⟩
theorem d_X6_tellAct_40 : q_dec prog_8_method_3_code 40 (.if_icmp .ne 33) 3 43 := ⟨by decide +kernel, rfl⟩
theorem d_X6_tellAct_43 : q_dec prog_8_method_3_code 43 (.aload_n 0) 1 44 := ⟨by decide +kernel, rfl⟩
theorem d_X6_tellAct_44 : q_dec prog_8_method_3_code 44 (.getfield 12) 3 47 := ⟨by decide +kernel, rfl⟩
theorem d_X6_tellAct_47 : q_dec prog_8_method_3_code 47 (.iload_n 1) 1 48 := ⟨by decide +kernel, rfl⟩
theorem d_X6_tellAct_48 : q_dec prog_8_method_3_code 48 (.invokevirtual 73) 3 51 := ⟨by decide +kernel, rfl⟩
theorem d_X6_tellAct_51 : q_dec prog_8_method_3_code 51 (.ifCond .eq 22) 3 54 := ⟨by decide +kernel, rfl⟩
theorem d_X6_tellAct_54 : q_dec prog_8_method_3_code 54 (.aload_n 0) 1 55 := ⟨by decide +kernel, rfl⟩
theorem d_X6_tellAct_55 : q_dec prog_8_method_3_code 55 (.getfield 12) 3 58 := ⟨by decide +kernel, rfl⟩
theorem d_X6_tellAct_58 : q_dec prog_8_method_3_code 58 (.getfield 77) 3 61 := ⟨by decide +kernel, rfl⟩
theorem d_X6_tellAct_61 : q_dec prog_8_method_3_code 61 (.iload_n 1) 1 62 := ⟨by decide +kernel, rfl⟩
theorem d_X6_tellAct_62 : q_dec prog_8_method_3_code 62 (.aaload) 1 63 := ⟨by decide +kernel, rfl⟩
theorem d_X6_tellAct_63 : q_dec prog_8_method_3_code 63 (.getfield 81) 3 66 := ⟨by decide +kernel, rfl⟩
theorem d_X6_tellAct_66 : q_dec prog_8_method_3_code 66 (.ifCond .eq 7) 3 69 := ⟨by decide +kernel, rfl⟩
theorem d_X6_tellAct_69 : q_dec prog_8_method_3_code 69 (.iconst 1) 1 70 := ⟨by decide +kernel, rfl⟩
theorem d_X6_tellAct_70 : q_dec prog_8_method_3_code 70 (.goto 4) 3 73 := ⟨by decide +kernel, rfl⟩
theorem d_X6_tellAct_73 : q_dec prog_8_method_3_code 73 (.iconst 0) 1 74 := ⟨by decide +kernel, rfl⟩
theorem d_X6_tellAct_74 : q_dec prog_8_method_3_code 74 (.istore 4) 2 76 := ⟨by decide +kernel, rfl⟩
theorem d_X6_tellAct_76 : q_dec prog_8_method_3_code 76 (.iload 4) 2 78 := ⟨by decide +kernel, rfl⟩
theorem d_X6_tellAct_78 : q_dec prog_8_method_3_code 78 (.ifCond .eq 25) 3 81 := ⟨by decide +kernel, rfl⟩
theorem d_X6_tellAct_81 : q_dec prog_8_method_3_code 81 (.aload_n 0) 1 82 := ⟨by decide +kernel, rfl⟩
theorem d_X6_tellAct_82 : q_dec prog_8_method_3_code 82 (.getfield 32) 3 85 := ⟨by decide +kernel, rfl⟩
theorem d_X6_tellAct_85 : q_dec prog_8_method_3_code 85 (.bipush (-6)) 2 87 := ⟨by decide +kernel, rfl⟩
theorem d_X6_tellAct_87 : q_dec prog_8_method_3_code 87 (.if_icmp .ne 16) 3 90 := ⟨by decide +kernel, rfl⟩
theorem d_X6_tellAct_90 : q_dec prog_8_method_3_code 90 (.aload_n 0) 1 91 := ⟨by decide +kernel, rfl⟩
theorem d_X6_tellAct_91 : q_dec prog_8_method_3_code 91 (.aload_n 0) 1 92 := ⟨by decide +kernel, rfl⟩
theorem d_X6_tellAct_92 : q_dec prog_8_method_3_code 92 (.getfield 22) 3 95 := ⟨by decide +kernel, rfl⟩
theorem d_X6_tellAct_95 : q_dec prog_8_method_3_code 95 (.putfield 32) 3 98 := ⟨by decide +kernel, rfl⟩
theorem d_X6_tellAct_98 : q_dec prog_8_method_3_code 98 (.aload_n 0) 1 99 := ⟨by decide +kernel, rfl⟩
theorem d_X6_tellAct_99 : q_dec prog_8_method_3_code 99 (.iload_n 1) 1 100 := ⟨by decide +kernel, rfl⟩
theorem d_X6_tellAct_100 : q_dec prog_8_method_3_code 100 (.putfield 35) 3 103 := ⟨by decide +kernel, rfl⟩
theorem d_X6_tellAct_103 : q_dec prog_8_method_3_code 103 (.aload_n 0) 1 104 := ⟨by decide +kernel, rfl⟩
theorem d_X6_tellAct_104 : q_dec prog_8_method_3_code 104 (.dup) 1 105 := ⟨by decide +kernel, rfl⟩
theorem d_X6_tellAct_105 : q_dec prog_8_method_3_code 105 (.getfield 22) 3 108 := ⟨by decide +kernel, rfl⟩
theorem d_X6_tellAct_108 : q_dec prog_8_method_3_code 108 (.iconst 1) 1 109 := ⟨by decide +kernel, rfl⟩
theorem d_X6_tellAct_109 : q_dec prog_8_method_3_code 109 (.iadd) 1 110 := ⟨by decide +kernel, rfl⟩
theorem d_X6_tellAct_110 : q_dec prog_8_method_3_code 110 (.putfield 22) 3 113 := ⟨by decide +kernel, rfl⟩
theorem d_X6_tellAct_113 : q_dec prog_8_method_3_code 113 (.return_) 1 114 := ⟨by decide +kernel, rfl⟩
theorem m_X6_tellAct : q_wV y_X6_tellAct prog_8_method_3_code 5 none 2 := ⟨q_mem 393 (by decide +kernel) (by decide +kernel), q_mem 392 (by decide +kernel) (by decide +kernel), q_memS (n := 8) 0 (by decide +kernel), q_mem 6 (by decide +kernel) (by decide +kernel), by decide +kernel⟩
theorem d_X6_tell_0 : q_dec prog_8_method_2_code 0 (.aload_n 0) 1 1 := ⟨by decide +kernel, rfl⟩
theorem d_X6_tell_1 : q_dec prog_8_method_2_code 1 (.getfield 12) 3 4 := ⟨by decide +kernel, rfl⟩
theorem d_X6_tell_4 : q_dec prog_8_method_2_code 4 (.aload_n 2) 1 5 := ⟨by decide +kernel, rfl⟩
theorem d_X6_tell_5 : q_dec prog_8_method_2_code 5 (.invokevirtual 18) 3 8 := ⟨by decide +kernel, rfl⟩
theorem d_X6_tell_8 : q_dec prog_8_method_2_code 8 (.aload_n 0) 1 9 := ⟨by decide +kernel, rfl⟩
theorem d_X6_tell_9 : q_dec prog_8_method_2_code 9 (.iconst 0) 1 10 := ⟨by decide +kernel, rfl⟩
theorem d_X6_tell_10 : q_dec prog_8_method_2_code 10 (.putfield 22) 3 13 := ⟨by decide +kernel, rfl⟩
theorem d_X6_tell_13 : q_dec prog_8_method_2_code 13 (.aload_n 0) 1 14 := ⟨by decide +kernel, rfl⟩
theorem d_X6_tell_14 : q_dec prog_8_method_2_code 14 (.bipush (-6)) 2 16 := ⟨by decide +kernel, rfl⟩
theorem d_X6_tell_16 : q_dec prog_8_method_2_code 16 (.putfield 26) 3 19 := ⟨by decide +kernel, rfl⟩
theorem d_X6_tell_19 : q_dec prog_8_method_2_code 19 (.aload_n 0) 1 20 := ⟨by decide +kernel, rfl⟩
theorem d_X6_tell_20 : q_dec prog_8_method_2_code 20 (.bipush (-6)) 2 22 := ⟨by decide +kernel, rfl⟩
theorem d_X6_tell_22 : q_dec prog_8_method_2_code 22 (.putfield 29) 3 25 := ⟨by decide +kernel, rfl⟩
theorem d_X6_tell_25 : q_dec prog_8_method_2_code 25 (.aload_n 0) 1 26 := ⟨by decide +kernel, rfl⟩
theorem d_X6_tell_26 : q_dec prog_8_method_2_code 26 (.bipush (-6)) 2 28 := ⟨by decide +kernel, rfl⟩
theorem d_X6_tell_28 : q_dec prog_8_method_2_code 28 (.putfield 32) 3 31 := ⟨by decide +kernel, rfl⟩
theorem d_X6_tell_31 : q_dec prog_8_method_2_code 31 (.aload_n 0) 1 32 := ⟨by decide +kernel, rfl⟩
theorem d_X6_tell_32 : q_dec prog_8_method_2_code 32 (.bipush (-6)) 2 34 := ⟨by decide +kernel, rfl⟩
theorem d_X6_tell_34 : q_dec prog_8_method_2_code 34 (.putfield 35) 3 37 := ⟨by decide +kernel, rfl⟩
theorem d_X6_tell_37 : q_dec prog_8_method_2_code 37 (.aload_n 0) 1 38 := ⟨by decide +kernel, rfl⟩
theorem d_X6_tell_38 : q_dec prog_8_method_2_code 38 (.aload_n 1) 1 39 := ⟨by decide +kernel, rfl⟩
theorem d_X6_tell_39 : q_dec prog_8_method_2_code 39 (.invokevirtual 38) 3 42 := ⟨by decide +kernel, rfl⟩
theorem d_X6_tell_42 : q_dec prog_8_method_2_code 42 (.bipush (-6)) 2 44 := ⟨by decide +kernel, rfl⟩
theorem d_X6_tell_44 : q_dec prog_8_method_2_code 44 (.if_icmp .eq 7) 3 47 := ⟨by decide +kernel, rfl⟩
theorem d_X6_tell_47 : q_dec prog_8_method_2_code 47 (.iconst 1) 1 48 := ⟨by decide +kernel, rfl⟩
theorem d_X6_tell_48 : q_dec prog_8_method_2_code 48 (.goto 4) 3 51 := ⟨by decide +kernel, rfl⟩
theorem d_X6_tell_51 : q_dec prog_8_method_2_code 51 (.iconst 0) 1 52 := ⟨by decide +kernel, rfl⟩
theorem d_X6_tell_52 : q_dec prog_8_method_2_code 52 (.putfield 44) 3 55 := ⟨by decide +kernel, rfl⟩
theorem d_X6_tell_55 : q_dec prog_8_method_2_code 55 (.bipush (-6)) 2 57 := ⟨by decide +kernel, rfl⟩
theorem d_X6_tell_57 : q_dec prog_8_method_2_code 57 (.istore_n 3) 1 58 := ⟨by decide +kernel, rfl⟩
theorem d_X6_tell_58 : q_dec prog_8_method_2_code 58 (.iconst 0) 1 59 := ⟨by decide +kernel, rfl⟩
theorem d_X6_tell_59 : q_dec prog_8_method_2_code 59 (.istore 4) 2 61 := ⟨by decide +kernel, rfl⟩
theorem d_X6_tell_61 : q_dec prog_8_method_2_code 61 (.iload 4) 2 63 := ⟨by decide +kernel, rfl⟩
theorem d_X6_tell_63 : q_dec prog_8_method_2_code 63 (.aload_n 1) 1 64 := ⟨by decide +kernel, rfl⟩
theorem d_X6_tell_64 : q_dec prog_8_method_2_code 64 (.getfield 48) 3 67 := ⟨by decide +kernel, rfl⟩
theorem d_X6_tell_67 : q_dec prog_8_method_2_code 67 (.if_icmp .ge 65) 3 70 := ⟨by decide +kernel, rfl⟩
theorem d_X6_tell_70 : q_dec prog_8_method_2_code 70 (.iload 4) 2 72 := ⟨by decide +kernel, rfl⟩
theorem d_X6_tell_72 : q_dec prog_8_method_2_code 72 (.bipush 60) 2 74 := ⟨by decide +kernel, rfl⟩
theorem d_X6_tell_74 : q_dec prog_8_method_2_code 74 (.if_icmp .ge 58) 3 77 := ⟨by decide +kernel, rfl⟩
theorem d_X6_tell_77 : q_dec prog_8_method_2_code 77 (.aload_n 0) 1 78 := ⟨by decide +kernel, rfl⟩
theorem d_X6_tell_78 : q_dec prog_8_method_2_code 78 (.getfield 44) 3 81 := ⟨by decide +kernel, rfl⟩
theorem d_X6_tell_81 : q_dec prog_8_method_2_code 81 (.ifCond .ne 51) 3 84 := ⟨by decide +kernel, rfl⟩
theorem d_X6_tell_84 : q_dec prog_8_method_2_code 84 (.aload_n 0) 1 85 := ⟨by decide +kernel, rfl⟩
theorem d_X6_tell_85 : q_dec prog_8_method_2_code 85 (.getfield 26) 3 88 := ⟨by decide +kernel, rfl⟩
theorem d_X6_tell_88 : q_dec prog_8_method_2_code 88 (.bipush (-6)) 2 90 := ⟨by decide +kernel, rfl⟩
theorem d_X6_tell_90 : q_dec prog_8_method_2_code 90 (.if_icmp .ne 42) 3 93 := ⟨by decide +kernel, rfl⟩
theorem d_X6_tell_93 : q_dec prog_8_method_2_code 93 (.aload_n 1) 1 94 := ⟨by decide +kernel, rfl⟩
theorem d_X6_tell_94 : q_dec prog_8_method_2_code 94 (.getfield 51) 3 97 := ⟨by decide +kernel, rfl⟩
theorem d_X6_tell_97 : q_dec prog_8_method_2_code 97 (.iload 4) 2 99 := ⟨by decide +kernel, rfl⟩
theorem d_X6_tell_99 : q_dec prog_8_method_2_code 99 (.caload) 1 100 := ⟨by decide +kernel, rfl⟩
theorem d_X6_tell_100 : q_dec prog_8_method_2_code 100 (.istore 5) 2 102 := ⟨by decide +kernel, rfl⟩
theorem d_X6_tell_102 : q_dec prog_8_method_2_code 102 (.iload 5) 2 104 := ⟨by decide +kernel, rfl⟩
theorem d_X6_tell_104 : q_dec prog_8_method_2_code 104 (.invokestatic 55) 3 107 := ⟨by decide +kernel, rfl⟩
theorem d_X6_tell_107 : q_dec prog_8_method_2_code 107 (.ifCond .eq 12) 3 110 := ⟨by decide +kernel, rfl⟩
theorem d_X6_tell_110 : q_dec prog_8_method_2_code 110 (.iload 5) 2 112 := ⟨by decide +kernel, rfl⟩
theorem d_X6_tell_112 : q_dec prog_8_method_2_code 112 (.bipush 65) 2 114 := ⟨by decide +kernel, rfl⟩
theorem d_X6_tell_114 : q_dec prog_8_method_2_code 114 (.isub) 1 115 := ⟨by decide +kernel, rfl⟩
theorem d_X6_tell_115 : q_dec prog_8_method_2_code 115 (.istore_n 3) 1 116 := ⟨by decide +kernel, rfl⟩
theorem d_X6_tell_116 : q_dec prog_8_method_2_code 116 (.goto 10) 3 119 := ⟨by decide +kernel, rfl⟩
theorem d_X6_tell_119 : q_dec prog_8_method_2_code 119 (.aload_n 0) 1 120 := ⟨by decide +kernel, rfl⟩
theorem d_X6_tell_120 : q_dec prog_8_method_2_code 120 (.iload_n 3) 1 121 := ⟨by decide +kernel, rfl⟩
theorem d_X6_tell_121 : q_dec prog_8_method_2_code 121 (.iload 5) 2 123 := ⟨by decide +kernel, rfl⟩
theorem d_X6_tell_123 : q_dec prog_8_method_2_code 123 (.invokevirtual 59) 3 126 := ⟨by decide +kernel, rfl⟩
theorem d_X6_tell_126 : q_dec prog_8_method_2_code 126 (.iinc 4 1) 3 129 := ⟨by decide +kernel, rfl⟩
theorem d_X6_tell_129 : q_dec prog_8_method_2_code 129 (.goto (-68)) 3 132 := ⟨by decide +kernel, rfl⟩
theorem d_X6_tell_132 : q_dec prog_8_method_2_code 132 (.aload_n 0) 1 133 := ⟨by decide +kernel, rfl⟩
theorem d_X6_tell_133 : q_dec prog_8_method_2_code 133 (.aload_n 0) 1 134 := ⟨by decide +kernel, rfl⟩
theorem d_X6_tell_134 : q_dec prog_8_method_2_code 134 (.getfield 44) 3 137 := ⟨by decide +kernel, rfl⟩
theorem d_X6_tell_137 : q_dec prog_8_method_2_code 137 (.ifCond .ne 16) 3 140 := ⟨by decide +kernel, rfl⟩
theorem d_X6_tell_140 : q_dec prog_8_method_2_code 140 (.aload_n 0) 1 141 := ⟨by decide +kernel, rfl⟩
theorem d_X6_tell_141 : q_dec prog_8_method_2_code 141 (.getfield 26) 3 144 := ⟨by decide +kernel, rfl⟩
theorem d_X6_tell_144 : q_dec prog_8_method_2_code 144 (.bipush (-6)) 2 146 := ⟨by decide +kernel, rfl⟩
theorem d_X6_tell_146 : q_dec prog_8_method_2_code 146 (.if_icmp .ne 7) 3 149 := ⟨by decide +kernel, rfl⟩
theorem d_X6_tell_149 : q_dec prog_8_method_2_code 149 (.iconst 1) 1 150 := ⟨by decide +kernel, rfl⟩
theorem d_X6_tell_150 : q_dec prog_8_method_2_code 150 (.goto 4) 3 153 := ⟨by decide +kernel, rfl⟩
theorem d_X6_tell_153 : q_dec prog_8_method_2_code 153 (.iconst 0) 1 154 := ⟨by decide +kernel, rfl⟩
theorem d_X6_tell_154 : q_dec prog_8_method_2_code 154 (.putfield 63) 3 157 := ⟨by decide +kernel, rfl⟩
theorem d_X6_tell_157 : q_dec prog_8_method_2_code 157 (.return_) 1 158 := ⟨by decide +kernel, rfl⟩
theorem m_X6_tell : q_wV y_X6_tell prog_8_method_2_code 6 none 2 := ⟨q_mem 371 (by decide +kernel) (by decide +kernel), q_mem 369 (by decide +kernel) (by decide +kernel), q_mem 370 (by decide +kernel) (by decide +kernel), q_mem 6 (by decide +kernel) (by decide +kernel), by decide +kernel⟩
theorem d_X7_lastActs_0 : q_dec prog_9_method_6_code 0 (.iconst 0) 1 1 := ⟨by decide +kernel, rfl⟩
theorem d_X7_lastActs_1 : q_dec prog_9_method_6_code 1 (.istore_n 1) 1 2 := ⟨by decide +kernel, rfl⟩
theorem d_X7_lastActs_2 : q_dec prog_9_method_6_code 2 (.aload_n 0) 1 3 := ⟨by decide +kernel, rfl⟩
theorem d_X7_lastActs_3 : q_dec prog_9_method_6_code 3 (.getfield 52) 3 6 := ⟨by decide +kernel, rfl⟩
theorem d_X7_lastActs_6 : q_dec prog_9_method_6_code 6 (.istore_n 2) 1 7 := ⟨by decide +kernel, rfl⟩
theorem d_X7_lastActs_7 : q_dec prog_9_method_6_code 7 (.iload_n 2) 1 8 := ⟨by decide +kernel, rfl⟩
theorem d_X7_lastActs_8 : q_dec prog_9_method_6_code 8 (.ifCond .le 47) 3 11 := ⟨by decide +kernel, rfl⟩
theorem d_X7_lastActs_11 : q_dec prog_9_method_6_code 11 (.aload_n 0) 1 12 := ⟨by decide +kernel, rfl⟩
theorem d_X7_lastActs_12 : q_dec prog_9_method_6_code 12 (.getfield 25) 3 15 := ⟨by decide +kernel, rfl⟩
theorem d_X7_lastActs_15 : q_dec prog_9_method_6_code 15 (.iload_n 2) 1 16 := ⟨by decide +kernel, rfl⟩
theorem d_X7_lastActs_16 : q_dec prog_9_method_6_code 16 (.iconst 1) 1 17 := ⟨by decide +kernel, rfl⟩
theorem d_X7_lastActs_17 : q_dec prog_9_method_6_code 17 (.isub) 1 18 := ⟨by decide +kernel, rfl⟩
theorem d_X7_lastActs_18 : q_dec prog_9_method_6_code 18 (.iaload) 1 19 := ⟨by decide +kernel, rfl⟩
theorem d_X7_lastActs_19 : q_dec prog_9_method_6_code 19 (.aload_n 0) 1 20 := ⟨by decide +kernel, rfl⟩
theorem d_X7_lastActs_20 : q_dec prog_9_method_6_code 20 (.getfield 25) 3 23 := ⟨by decide +kernel, rfl⟩
theorem d_X7_lastActs_23 : q_dec prog_9_method_6_code 23 (.iload_n 2) 1 24 := ⟨by decide +kernel, rfl⟩
theorem d_X7_lastActs_24 : q_dec prog_9_method_6_code 24 (.iaload) 1 25 := ⟨by decide +kernel, rfl⟩
theorem d_X7_lastActs_25 : q_dec prog_9_method_6_code 25 (.isub) 1 26 := ⟨by decide +kernel, rfl⟩
theorem d_X7_lastActs_26 : q_dec prog_9_method_6_code 26 (.istore_n 3) 1 27 := ⟨by decide +kernel, rfl⟩
theorem d_X7_lastActs_27 : q_dec prog_9_method_6_code 27 (.iload_n 1) 1 28 := ⟨by decide +kernel, rfl⟩
theorem d_X7_lastActs_28 : q_dec prog_9_method_6_code 28 (.iconst 3) 1 29 := ⟨by decide +kernel, rfl⟩
theorem d_X7_lastActs_29 : q_dec prog_9_method_6_code 29 (.imul) 1 30 := ⟨by decide +kernel, rfl⟩
theorem d_X7_lastActs_30 : q_dec prog_9_method_6_code 30 (.iload_n 3) 1 31 := ⟨by decide +kernel, rfl⟩
theorem d_X7_lastActs_31 : q_dec prog_9_method_6_code 31 (.ifCond .ne 7) 3 34 := ⟨by decide +kernel, rfl⟩
theorem d_X7_lastActs_34 : q_dec prog_9_method_6_code 34 (.iconst 0) 1 35 := ⟨by decide +kernel, rfl⟩
theorem d_X7_lastActs_35 : q_dec prog_9_method_6_code 35 (.goto 12) 3 38 := ⟨by decide +kernel, rfl⟩
theorem d_X7_lastActs_38 : q_dec prog_9_method_6_code 38 (.iload_n 3) 1 39 := ⟨by decide +kernel, rfl⟩
theorem d_X7_lastActs_39 : q_dec prog_9_method_6_code 39 (.ifCond .ge 7) 3 42 := ⟨by decide +kernel, rfl⟩
theorem d_X7_lastActs_42 : q_dec prog_9_method_6_code 42 (.iconst 1) 1 43 := ⟨by decide +kernel, rfl⟩
theorem d_X7_lastActs_43 : q_dec prog_9_method_6_code 43 (.goto 4) 3 46 := ⟨by decide +kernel, rfl⟩
theorem d_X7_lastActs_46 : q_dec prog_9_method_6_code 46 (.iconst 2) 1 47 := ⟨by decide +kernel, rfl⟩
theorem d_X7_lastActs_47 : q_dec prog_9_method_6_code 47 (.iadd) 1 48 := ⟨by decide +kernel, rfl⟩
theorem d_X7_lastActs_48 : q_dec prog_9_method_6_code 48 (.istore_n 1) 1 49 := ⟨by decide +kernel, rfl⟩
theorem d_X7_lastActs_49 : q_dec prog_9_method_6_code 49 (.iinc 2 (-1)) 3 52 := ⟨by decide +kernel, rfl⟩
theorem d_X7_lastActs_52 : q_dec prog_9_method_6_code 52 (.goto (-45)) 3 55 := ⟨by decide +kernel, rfl⟩
theorem d_X7_lastActs_55 : q_dec prog_9_method_6_code 55 (.iload_n 1) 1 56 := ⟨by decide +kernel, rfl⟩
theorem d_X7_lastActs_56 : q_dec prog_9_method_6_code 56 (.ireturn) 1 57 := ⟨by decide +kernel, rfl⟩
theorem m_X7_lastActs : q_wS y_X7_lastActs prog_9_method_6_code 4 (some .int) 1 := ⟨q_mem 507 (by decide +kernel) (by decide +kernel), q_mem 506 (by decide +kernel) (by decide +kernel), q_mem 7 (by decide +kernel) (by decide +kernel), by decide +kernel⟩
theorem d_X7_offer_0 : q_dec prog_9_method_5_code 0 (.iconst 1) 1 1 := ⟨by decide +kernel, rfl⟩
theorem d_X7_offer_1 : q_dec prog_9_method_5_code 1 (.iload_n 1) 1 2 := ⟨by decide +kernel, rfl⟩
theorem d_X7_offer_2 : q_dec prog_9_method_5_code 2 (.bipush 31) 2 4 := ⟨by decide +kernel, rfl⟩
theorem d_X7_offer_4 : q_dec prog_9_method_5_code 4 (.iand) 1 5 := ⟨by decide +kernel, rfl⟩
theorem d_X7_offer_5 : q_dec prog_9_method_5_code 5 (.ishl) 1 6 := ⟨by decide +kernel, rfl⟩
theorem d_X7_offer_6 : q_dec prog_9_method_5_code 6 (.istore 4) 2 8 := ⟨by decide +kernel, rfl⟩
theorem d_X7_offer_8 : q_dec prog_9_method_5_code 8 (.iload_n 1) 1 9 := ⟨by decide +kernel, rfl⟩
theorem d_X7_offer_9 : q_dec prog_9_method_5_code 9 (.iconst 0) 1 10 := ⟨by decide +kernel, rfl⟩
theorem d_X7_offer_10 : q_dec prog_9_method_5_code 10 (.sipush 4859) 3 13 := ⟨by decide +kernel, rfl⟩
theorem d_X7_offer_13 : q_dec prog_9_method_5_code 13 (.invokestatic 78) 3 16 := ⟨by decide +kernel, rfl⟩
theorem d_X7_offer_16 : q_dec prog_9_method_5_code 16 (.ifCond .eq 27) 3 19 := ⟨by decide +kernel, rfl⟩
theorem d_X7_offer_19 : q_dec prog_9_method_5_code 19 (.aload_n 0) 1 20 := ⟨by decide +kernel, rfl⟩
theorem d_X7_offer_20 : q_dec prog_9_method_5_code 20 (.getfield 46) 3 23 := ⟨by decide +kernel, rfl⟩
theorem d_X7_offer_23 : q_dec prog_9_method_5_code 23 (.sipush 4860) 3 26 := ⟨by decide +kernel, rfl⟩
theorem d_X7_offer_26 : q_dec prog_9_method_5_code 26 (.if_icmp .ge 17) 3 29 := ⟨by decide +kernel, rfl⟩
theorem d_X7_offer_29 : q_dec prog_9_method_5_code 29 (.aload_n 0) 1 30 := ⟨by decide +kernel, rfl⟩
theorem d_X7_offer_30 : q_dec prog_9_method_5_code 30 (.getfield 15) 3 33 := ⟨by decide +kernel, rfl⟩
theorem d_X7_offer_33 : q_dec prog_9_method_5_code 33 (.iload_n 1) 1 34 := ⟨by decide +kernel, rfl⟩
theorem d_X7_offer_34 : q_dec prog_9_method_5_code 34 (.iconst 5) 1 35 := ⟨by decide +kernel, rfl⟩
theorem d_X7_offer_35 : q_dec prog_9_method_5_code 35 (.ishr) 1 36 := ⟨by decide +kernel, rfl⟩
theorem d_X7_offer_36 : q_dec prog_9_method_5_code 36 (.iaload) 1 37 := ⟨by decide +kernel, rfl⟩
theorem d_X7_offer_37 : q_dec prog_9_method_5_code 37 (.iload 4) 2 39 := ⟨by decide +kernel, rfl⟩
theorem d_X7_offer_39 : q_dec prog_9_method_5_code 39 (.iand) 1 40 := ⟨by decide +kernel, rfl⟩
theorem d_X7_offer_40 : q_dec prog_9_method_5_code 40 (.ifCond .eq 4) 3 43 := ⟨by decide +kernel, rfl⟩
theorem d_X7_offer_43 : q_dec prog_9_method_5_code 43 (.return_) 1 44 := ⟨by decide +kernel, rfl⟩
theorem d_X7_offer_44 : q_dec prog_9_method_5_code 44 (.aload_n 0) 1 45 := ⟨by decide +kernel, rfl⟩
theorem d_X7_offer_45 : q_dec prog_9_method_5_code 45 (.getfield 15) 3 48 := ⟨by decide +kernel, rfl⟩
theorem d_X7_offer_48 : q_dec prog_9_method_5_code 48 (.iload_n 1) 1 49 := ⟨by decide +kernel, rfl⟩
theorem d_X7_offer_49 : q_dec prog_9_method_5_code 49 (.iconst 5) 1 50 := ⟨by decide +kernel, rfl⟩
theorem d_X7_offer_50 : q_dec prog_9_method_5_code 50 (.ishr) 1 51 := ⟨by decide +kernel, rfl⟩
theorem d_X7_offer_51 : q_dec prog_9_method_5_code 51 (.dup2) 1 52 := ⟨by decide +kernel, rfl⟩
theorem d_X7_offer_52 : q_dec prog_9_method_5_code 52 (.iaload) 1 53 := ⟨by decide +kernel, rfl⟩
theorem d_X7_offer_53 : q_dec prog_9_method_5_code 53 (.iload 4) 2 55 := ⟨by decide +kernel, rfl⟩
theorem d_X7_offer_55 : q_dec prog_9_method_5_code 55 (.ior) 1 56 := ⟨by decide +kernel, rfl⟩
theorem d_X7_offer_56 : q_dec prog_9_method_5_code 56 (.iastore) 1 57 := ⟨by decide +kernel, rfl⟩
theorem d_X7_offer_57 : q_dec prog_9_method_5_code 57 (.aload_n 0) 1 58 := ⟨by decide +kernel, rfl⟩
theorem d_X7_offer_58 : q_dec prog_9_method_5_code 58 (.getfield 11) 3 61 := ⟨by decide +kernel, rfl⟩
theorem d_X7_offer_61 : q_dec prog_9_method_5_code 61 (.aload_n 0) 1 62 := ⟨by decide +kernel, rfl⟩
theorem d_X7_offer_62 : q_dec prog_9_method_5_code 62 (.getfield 46) 3 65 := ⟨by decide +kernel, rfl⟩
theorem d_X7_offer_65 : q_dec prog_9_method_5_code 65 (.iload_n 1) 1 66 := ⟨by decide +kernel, rfl⟩
theorem d_X7_offer_66 : q_dec prog_9_method_5_code 66 (.iload_n 2) 1 67 := ⟨by decide +kernel, rfl⟩
theorem d_X7_offer_67 : q_dec prog_9_method_5_code 67 (.bipush 13) 2 69 := ⟨by decide +kernel, rfl⟩
theorem d_X7_offer_69 : q_dec prog_9_method_5_code 69 (.ishl) 1 70 := ⟨by decide +kernel, rfl⟩
theorem d_X7_offer_70 : q_dec prog_9_method_5_code 70 (.ior) 1 71 := ⟨by decide +kernel, rfl⟩
theorem d_X7_offer_71 : q_dec prog_9_method_5_code 71 (.iload_n 3) 1 72 := ⟨by decide +kernel, rfl⟩
theorem d_X7_offer_72 : q_dec prog_9_method_5_code 72 (.bipush 15) 2 74 := ⟨by decide +kernel, rfl⟩
theorem d_X7_offer_74 : q_dec prog_9_method_5_code 74 (.ishl) 1 75 := ⟨by decide +kernel, rfl⟩
theorem d_X7_offer_75 : q_dec prog_9_method_5_code 75 (.ior) 1 76 := ⟨by decide +kernel, rfl⟩
theorem d_X7_offer_76 : q_dec prog_9_method_5_code 76 (.iastore) 1 77 := ⟨by decide +kernel, rfl⟩
theorem d_X7_offer_77 : q_dec prog_9_method_5_code 77 (.aload_n 0) 1 78 := ⟨by decide +kernel, rfl⟩
theorem d_X7_offer_78 : q_dec prog_9_method_5_code 78 (.dup) 1 79 := ⟨by decide +kernel, rfl⟩
theorem d_X7_offer_79 : q_dec prog_9_method_5_code 79 (.getfield 46) 3 82 := ⟨by decide +kernel, rfl⟩
theorem d_X7_offer_82 : q_dec prog_9_method_5_code 82 (.iconst 1) 1 83 := ⟨by decide +kernel, rfl⟩
theorem d_X7_offer_83 : q_dec prog_9_method_5_code 83 (.iadd) 1 84 := ⟨by decide +kernel, rfl⟩
theorem d_X7_offer_84 : q_dec prog_9_method_5_code 84 (.putfield 46) 3 87 := ⟨by decide +kernel, rfl⟩
theorem d_X7_offer_87 : q_dec prog_9_method_5_code 87 (.return_) 1 88 := ⟨by decide +kernel, rfl⟩
theorem m_X7_offer : q_wV y_X7_offer prog_9_method_5_code 5 none 3 := ⟨q_mem 511 (by decide +kernel) (by decide +kernel), q_mem 510 (by decide +kernel) (by decide +kernel), q_memS (n := 5) 7 (by decide +kernel), q_mem 7 (by decide +kernel) (by decide +kernel), by decide +kernel⟩
theorem d_X7_lead_0 : q_dec prog_9_method_7_code 0 (.iload_n 0) 1 1 := ⟨by decide +kernel, rfl⟩
theorem d_X7_lead_1 : q_dec prog_9_method_7_code 1 (.istore_n 2) 1 2 := ⟨by decide +kernel, rfl⟩
theorem d_X7_lead_2 : q_dec prog_9_method_7_code 2 (.iconst 0) 1 3 := ⟨by decide +kernel, rfl⟩
theorem d_X7_lead_3 : q_dec prog_9_method_7_code 3 (.istore_n 3) 1 4 := ⟨by decide +kernel, rfl⟩
theorem d_X7_lead_4 : q_dec prog_9_method_7_code 4 (.iconst 0) 1 5 := ⟨by decide +kernel, rfl⟩
theorem d_X7_lead_5 : q_dec prog_9_method_7_code 5 (.istore 4) 2 7 := ⟨by decide +kernel, rfl⟩
theorem d_X7_lead_7 : q_dec prog_9_method_7_code 7 (.iload 4) 2 9 := ⟨by decide +kernel, rfl⟩
theorem d_X7_lead_9 : q_dec prog_9_method_7_code 9 (.iload_n 1) 1 10 := ⟨by decide +kernel, rfl⟩
theorem d_X7_lead_10 : q_dec prog_9_method_7_code 10 (.if_icmp .ge 23) 3 13 := ⟨by decide +kernel, rfl⟩
theorem d_X7_lead_13 : q_dec prog_9_method_7_code 13 (.iload_n 3) 1 14 := ⟨by decide +kernel, rfl⟩
theorem d_X7_lead_14 : q_dec prog_9_method_7_code 14 (.getstatic 67) 3 17 := ⟨by decide +kernel, rfl⟩
theorem d_X7_lead_17 : q_dec prog_9_method_7_code 17 (.iload_n 2) 1 18 := ⟨by decide +kernel, rfl⟩
theorem d_X7_lead_18 : q_dec prog_9_method_7_code 18 (.iconst 3) 1 19 := ⟨by decide +kernel, rfl⟩
theorem d_X7_lead_19 : q_dec prog_9_method_7_code 19 (.irem) 1 20 := ⟨by decide +kernel, rfl⟩
theorem d_X7_lead_20 : q_dec prog_9_method_7_code 20 (.iaload) 1 21 := ⟨by decide +kernel, rfl⟩
theorem d_X7_lead_21 : q_dec prog_9_method_7_code 21 (.iadd) 1 22 := ⟨by decide +kernel, rfl⟩
theorem d_X7_lead_22 : q_dec prog_9_method_7_code 22 (.istore_n 3) 1 23 := ⟨by decide +kernel, rfl⟩
theorem d_X7_lead_23 : q_dec prog_9_method_7_code 23 (.iload_n 2) 1 24 := ⟨by decide +kernel, rfl⟩
theorem d_X7_lead_24 : q_dec prog_9_method_7_code 24 (.iconst 3) 1 25 := ⟨by decide +kernel, rfl⟩
theorem d_X7_lead_25 : q_dec prog_9_method_7_code 25 (.idiv) 1 26 := ⟨by decide +kernel, rfl⟩
theorem d_X7_lead_26 : q_dec prog_9_method_7_code 26 (.istore_n 2) 1 27 := ⟨by decide +kernel, rfl⟩
theorem d_X7_lead_27 : q_dec prog_9_method_7_code 27 (.iinc 4 1) 3 30 := ⟨by decide +kernel, rfl⟩
theorem d_X7_lead_30 : q_dec prog_9_method_7_code 30 (.goto (-23)) 3 33 := ⟨by decide +kernel, rfl⟩
theorem d_X7_lead_33 : q_dec prog_9_method_7_code 33 (.iload_n 3) 1 34 := ⟨by decide +kernel, rfl⟩
theorem d_X7_lead_34 : q_dec prog_9_method_7_code 34 (.ireturn) 1 35 := ⟨by decide +kernel, rfl⟩
theorem m_X7_lead : q_wS y_X7_lead prog_9_method_7_code 5 (some .int) 2 := ⟨q_mem 522 (by decide +kernel) (by decide +kernel), q_mem 521 (by decide +kernel) (by decide +kernel), q_mem 7 (by decide +kernel) (by decide +kernel), by decide +kernel⟩
theorem d_X7_tryWay_0 : q_dec prog_9_method_4_code 0 (.getstatic 49) 3 3 := ⟨by decide +kernel, rfl⟩
theorem d_X7_tryWay_3 : q_dec prog_9_method_4_code 3 (.iload_n 3) 1 4 := ⟨by decide +kernel, rfl⟩
theorem d_X7_tryWay_4 : q_dec prog_9_method_4_code 4 (.iaload) 1 5 := ⟨by decide +kernel, rfl⟩
theorem d_X7_tryWay_5 : q_dec prog_9_method_4_code 5 (.istore 6) 2 7 := ⟨by decide +kernel, rfl⟩
theorem d_X7_tryWay_7 : q_dec prog_9_method_4_code 7 (.iload_n 1) 1 8 := ⟨by decide +kernel, rfl⟩
theorem d_X7_tryWay_8 : q_dec prog_9_method_4_code 8 (.sipush 8191) 3 11 := ⟨by decide +kernel, rfl⟩
theorem d_X7_tryWay_11 : q_dec prog_9_method_4_code 11 (.iand) 1 12 := ⟨by decide +kernel, rfl⟩
theorem d_X7_tryWay_12 : q_dec prog_9_method_4_code 12 (.istore 7) 2 14 := ⟨by decide +kernel, rfl⟩
theorem d_X7_tryWay_14 : q_dec prog_9_method_4_code 14 (.iload_n 1) 1 15 := ⟨by decide +kernel, rfl⟩
theorem d_X7_tryWay_15 : q_dec prog_9_method_4_code 15 (.bipush 15) 2 17 := ⟨by decide +kernel, rfl⟩
theorem d_X7_tryWay_17 : q_dec prog_9_method_4_code 17 (.ishr) 1 18 := ⟨by decide +kernel, rfl⟩
theorem d_X7_tryWay_18 : q_dec prog_9_method_4_code 18 (.istore 8) 2 20 := ⟨by decide +kernel, rfl⟩
theorem d_X7_tryWay_20 : q_dec prog_9_method_4_code 20 (.iload 7) 2 22 := ⟨by decide +kernel, rfl⟩
theorem d_X7_tryWay_22 : q_dec prog_9_method_4_code 22 (.iload 6) 2 24 := ⟨by decide +kernel, rfl⟩
theorem d_X7_tryWay_24 : q_dec prog_9_method_4_code 24 (.idiv) 1 25 := ⟨by decide +kernel, rfl⟩
theorem d_X7_tryWay_25 : q_dec prog_9_method_4_code 25 (.getstatic 67) 3 28 := ⟨by decide +kernel, rfl⟩
theorem d_X7_tryWay_28 : q_dec prog_9_method_4_code 28 (.iload_n 2) 1 29 := ⟨by decide +kernel, rfl⟩
theorem d_X7_tryWay_29 : q_dec prog_9_method_4_code 29 (.iaload) 1 30 := ⟨by decide +kernel, rfl⟩
theorem d_X7_tryWay_30 : q_dec prog_9_method_4_code 30 (.iadd) 1 31 := ⟨by decide +kernel, rfl⟩
theorem d_X7_tryWay_31 : q_dec prog_9_method_4_code 31 (.istore 9) 2 33 := ⟨by decide +kernel, rfl⟩
theorem d_X7_tryWay_33 : q_dec prog_9_method_4_code 33 (.iload 7) 2 35 := ⟨by decide +kernel, rfl⟩
theorem d_X7_tryWay_35 : q_dec prog_9_method_4_code 35 (.iload 6) 2 37 := ⟨by decide +kernel, rfl⟩
theorem d_X7_tryWay_37 : q_dec prog_9_method_4_code 37 (.irem) 1 38 := ⟨by decide +kernel, rfl⟩
theorem d_X7_tryWay_38 : q_dec prog_9_method_4_code 38 (.iconst 3) 1 39 := ⟨by decide +kernel, rfl⟩
theorem d_X7_tryWay_39 : q_dec prog_9_method_4_code 39 (.imul) 1 40 := ⟨by decide +kernel, rfl⟩
theorem d_X7_tryWay_40 : q_dec prog_9_method_4_code 40 (.iload_n 2) 1 41 := ⟨by decide +kernel, rfl⟩
theorem d_X7_tryWay_41 : q_dec prog_9_method_4_code 41 (.iadd) 1 42 := ⟨by decide +kernel, rfl⟩
theorem d_X7_tryWay_42 : q_dec prog_9_method_4_code 42 (.iload 6) 2 44 := ⟨by decide +kernel, rfl⟩
theorem d_X7_tryWay_44 : q_dec prog_9_method_4_code 44 (.irem) 1 45 := ⟨by decide +kernel, rfl⟩
theorem d_X7_tryWay_45 : q_dec prog_9_method_4_code 45 (.istore 10) 2 47 := ⟨by decide +kernel, rfl⟩
theorem d_X7_tryWay_47 : q_dec prog_9_method_4_code 47 (.iload 9) 2 49 := ⟨by decide +kernel, rfl⟩
theorem d_X7_tryWay_49 : q_dec prog_9_method_4_code 49 (.invokestatic 70) 3 52 := ⟨by decide +kernel, rfl⟩
theorem d_X7_tryWay_52 : q_dec prog_9_method_4_code 52 (.ifCond .eq 21) 3 55 := ⟨by decide +kernel, rfl⟩
theorem d_X7_tryWay_55 : q_dec prog_9_method_4_code 55 (.iload_n 2) 1 56 := ⟨by decide +kernel, rfl⟩
theorem d_X7_tryWay_56 : q_dec prog_9_method_4_code 56 (.ifCond .eq 18) 3 59 := ⟨by decide +kernel, rfl⟩
theorem d_X7_tryWay_59 : q_dec prog_9_method_4_code 59 (.iload 10) 2 61 := ⟨by decide +kernel, rfl⟩
theorem d_X7_tryWay_61 : q_dec prog_9_method_4_code 61 (.iload_n 3) 1 62 := ⟨by decide +kernel, rfl⟩
theorem d_X7_tryWay_62 : q_dec prog_9_method_4_code 62 (.invokestatic 74) 3 65 := ⟨by decide +kernel, rfl⟩
theorem d_X7_tryWay_65 : q_dec prog_9_method_4_code 65 (.invokestatic 30) 3 68 := ⟨by decide +kernel, rfl⟩
theorem d_X7_tryWay_68 : q_dec prog_9_method_4_code 68 (.iload 5) 2 70 := ⟨by decide +kernel, rfl⟩
theorem d_X7_tryWay_70 : q_dec prog_9_method_4_code 70 (.if_icmp .le 4) 3 73 := ⟨by decide +kernel, rfl⟩
theorem d_X7_tryWay_73 : q_dec prog_9_method_4_code 73 (.return_) 1 74 := ⟨by decide +kernel, rfl⟩
theorem d_X7_tryWay_74 : q_dec prog_9_method_4_code 74 (.iload 8) 2 76 := ⟨by decide +kernel, rfl⟩
theorem d_X7_tryWay_76 : q_dec prog_9_method_4_code 76 (.ifCond .ne 7) 3 79 := ⟨by decide +kernel, rfl⟩
theorem d_X7_tryWay_79 : q_dec prog_9_method_4_code 79 (.iload_n 2) 1 80 := ⟨by decide +kernel, rfl⟩
theorem d_X7_tryWay_80 : q_dec prog_9_method_4_code 80 (.goto 9) 3 83 := ⟨by decide +kernel, rfl⟩
theorem d_X7_tryWay_83 : q_dec prog_9_method_4_code 83 (.iload_n 1) 1 84 := ⟨by decide +kernel, rfl⟩
theorem d_X7_tryWay_84 : q_dec prog_9_method_4_code 84 (.bipush 13) 2 86 := ⟨by decide +kernel, rfl⟩
theorem d_X7_tryWay_86 : q_dec prog_9_method_4_code 86 (.ishr) 1 87 := ⟨by decide +kernel, rfl⟩
theorem d_X7_tryWay_87 : q_dec prog_9_method_4_code 87 (.iconst 3) 1 88 := ⟨by decide +kernel, rfl⟩
theorem d_X7_tryWay_88 : q_dec prog_9_method_4_code 88 (.iand) 1 89 := ⟨by decide +kernel, rfl⟩
theorem d_X7_tryWay_89 : q_dec prog_9_method_4_code 89 (.istore 11) 2 91 := ⟨by decide +kernel, rfl⟩
theorem d_X7_tryWay_91 : q_dec prog_9_method_4_code 91 (.iload 9) 2 93 := ⟨by decide +kernel, rfl⟩
theorem d_X7_tryWay_93 : q_dec prog_9_method_4_code 93 (.iload 4) 2 95 := ⟨by decide +kernel, rfl⟩
theorem d_X7_tryWay_95 : q_dec prog_9_method_4_code 95 (.if_icmp .ne 20) 3 98 := ⟨by decide +kernel, rfl⟩
theorem d_X7_tryWay_98 : q_dec prog_9_method_4_code 98 (.aload_n 0) 1 99 := ⟨by decide +kernel, rfl⟩
theorem d_X7_tryWay_99 : q_dec prog_9_method_4_code 99 (.iload 8) 2 101 := ⟨by decide +kernel, rfl⟩
theorem d_X7_tryWay_101 : q_dec prog_9_method_4_code 101 (.iconst 1) 1 102 := ⟨by decide +kernel, rfl⟩
theorem d_X7_tryWay_102 : q_dec prog_9_method_4_code 102 (.iadd) 1 103 := ⟨by decide +kernel, rfl⟩
theorem d_X7_tryWay_103 : q_dec prog_9_method_4_code 103 (.putfield 18) 3 106 := ⟨by decide +kernel, rfl⟩
theorem d_X7_tryWay_106 : q_dec prog_9_method_4_code 106 (.aload_n 0) 1 107 := ⟨by decide +kernel, rfl⟩
theorem d_X7_tryWay_107 : q_dec prog_9_method_4_code 107 (.iload 11) 2 109 := ⟨by decide +kernel, rfl⟩
theorem d_X7_tryWay_109 : q_dec prog_9_method_4_code 109 (.putfield 22) 3 112 := ⟨by decide +kernel, rfl⟩
theorem d_X7_tryWay_112 : q_dec prog_9_method_4_code 112 (.goto 21) 3 115 := ⟨by decide +kernel, rfl⟩
theorem d_X7_tryWay_115 : q_dec prog_9_method_4_code 115 (.aload_n 0) 1 116 := ⟨by decide +kernel, rfl⟩
theorem d_X7_tryWay_116 : q_dec prog_9_method_4_code 116 (.iload 9) 2 118 := ⟨by decide +kernel, rfl⟩
theorem d_X7_tryWay_118 : q_dec prog_9_method_4_code 118 (.iload 6) 2 120 := ⟨by decide +kernel, rfl⟩
theorem d_X7_tryWay_120 : q_dec prog_9_method_4_code 120 (.imul) 1 121 := ⟨by decide +kernel, rfl⟩
theorem d_X7_tryWay_121 : q_dec prog_9_method_4_code 121 (.iload 10) 2 123 := ⟨by decide +kernel, rfl⟩
theorem d_X7_tryWay_123 : q_dec prog_9_method_4_code 123 (.iadd) 1 124 := ⟨by decide +kernel, rfl⟩
theorem d_X7_tryWay_124 : q_dec prog_9_method_4_code 124 (.iload 11) 2 126 := ⟨by decide +kernel, rfl⟩
theorem d_X7_tryWay_126 : q_dec prog_9_method_4_code 126 (.iload 8) 2 128 := ⟨by decide +kernel, rfl⟩
theorem d_X7_tryWay_128 : q_dec prog_9_method_4_code 128 (.iconst 1) 1 129 := ⟨by decide +kernel, rfl⟩
theorem d_X7_tryWay_129 : q_dec prog_9_method_4_code 129 (.iadd) 1 130 := ⟨by decide +kernel, rfl⟩
theorem d_X7_tryWay_130 : q_dec prog_9_method_4_code 130 (.invokevirtual 59) 3 133 := ⟨by decide +kernel, rfl⟩
theorem d_X7_tryWay_133 : q_dec prog_9_method_4_code 133 (.return_) 1 134 := ⟨by decide +kernel, rfl⟩
theorem m_X7_tryWay : q_wV y_X7_tryWay prog_9_method_4_code 12 none 5 := ⟨q_mem 516 (by decide +kernel) (by decide +kernel), q_mem 515 (by decide +kernel) (by decide +kernel), q_memS (n := 5) 8 (by decide +kernel), q_mem 7 (by decide +kernel) (by decide +kernel), by decide +kernel⟩
theorem d_X7_search_0 : q_dec prog_9_method_3_code 0 (.aload_n 0) 1 1 := ⟨by decide +kernel, rfl⟩
theorem d_X7_search_1 : q_dec prog_9_method_3_code 1 (.getfield 15) 3 4 := ⟨by decide +kernel, rfl⟩
theorem d_X7_search_4 : q_dec prog_9_method_3_code 4 (.iconst 0) 1 5 := ⟨by decide +kernel, rfl⟩
theorem d_X7_search_5 : q_dec prog_9_method_3_code 5 (.invokestatic 40) 3 8 := ⟨by decide +kernel, rfl⟩
theorem d_X7_search_8 : q_dec prog_9_method_3_code 8 (.aload_n 0) 1 9 := ⟨by decide +kernel, rfl⟩
theorem d_X7_search_9 : q_dec prog_9_method_3_code 9 (.iconst 0) 1 10 := ⟨by decide +kernel, rfl⟩
theorem d_X7_search_10 : q_dec prog_9_method_3_code 10 (.putfield 46) 3 13 := ⟨by decide +kernel, rfl⟩
theorem d_X7_search_13 : q_dec prog_9_method_3_code 13 (.getstatic 49) 3 16 := ⟨by decide +kernel, rfl⟩
theorem d_X7_search_16 : q_dec prog_9_method_3_code 16 (.aload_n 1) 1 17 := ⟨by decide +kernel, rfl⟩
theorem d_X7_search_17 : q_dec prog_9_method_3_code 17 (.getfield 52) 3 20 := ⟨by decide +kernel, rfl⟩
theorem d_X7_search_20 : q_dec prog_9_method_3_code 20 (.iaload) 1 21 := ⟨by decide +kernel, rfl⟩
theorem d_X7_search_21 : q_dec prog_9_method_3_code 21 (.istore 4) 2 23 := ⟨by decide +kernel, rfl⟩
theorem d_X7_search_23 : q_dec prog_9_method_3_code 23 (.aload_n 0) 1 24 := ⟨by decide +kernel, rfl⟩
theorem d_X7_search_24 : q_dec prog_9_method_3_code 24 (.aload_n 1) 1 25 := ⟨by decide +kernel, rfl⟩
theorem d_X7_search_25 : q_dec prog_9_method_3_code 25 (.getfield 25) 3 28 := ⟨by decide +kernel, rfl⟩
theorem d_X7_search_28 : q_dec prog_9_method_3_code 28 (.iconst 0) 1 29 := ⟨by decide +kernel, rfl⟩
theorem d_X7_search_29 : q_dec prog_9_method_3_code 29 (.iaload) 1 30 := ⟨by decide +kernel, rfl⟩
theorem d_X7_search_30 : q_dec prog_9_method_3_code 30 (.iload 4) 2 32 := ⟨by decide +kernel, rfl⟩
theorem d_X7_search_32 : q_dec prog_9_method_3_code 32 (.imul) 1 33 := ⟨by decide +kernel, rfl⟩
theorem d_X7_search_33 : q_dec prog_9_method_3_code 33 (.aload_n 1) 1 34 := ⟨by decide +kernel, rfl⟩
theorem d_X7_search_34 : q_dec prog_9_method_3_code 34 (.invokestatic 55) 3 37 := ⟨by decide +kernel, rfl⟩
theorem d_X7_search_37 : q_dec prog_9_method_3_code 37 (.iadd) 1 38 := ⟨by decide +kernel, rfl⟩
theorem d_X7_search_38 : q_dec prog_9_method_3_code 38 (.iconst 0) 1 39 := ⟨by decide +kernel, rfl⟩
theorem d_X7_search_39 : q_dec prog_9_method_3_code 39 (.iconst 0) 1 40 := ⟨by decide +kernel, rfl⟩
theorem d_X7_search_40 : q_dec prog_9_method_3_code 40 (.invokevirtual 59) 3 43 := ⟨by decide +kernel, rfl⟩
theorem d_X7_search_43 : q_dec prog_9_method_3_code 43 (.iconst 0) 1 44 := ⟨by decide +kernel, rfl⟩
theorem d_X7_search_44 : q_dec prog_9_method_3_code 44 (.istore 5) 2 46 := ⟨by decide +kernel, rfl⟩
theorem d_X7_search_46 : q_dec prog_9_method_3_code 46 (.iload 5) 2 48 := ⟨by decide +kernel, rfl⟩
theorem d_X7_search_48 : q_dec prog_9_method_3_code 48 (.sipush 4860) 3 51 := ⟨by decide +kernel, rfl⟩
theorem d_X7_search_51 : q_dec prog_9_method_3_code 51 (.if_icmp .ge 70) 3 54 := ⟨by decide +kernel, rfl⟩
theorem d_X7_search_54 : q_dec prog_9_method_3_code 54 (.iload 5) 2 56 := ⟨by decide +kernel, rfl⟩
theorem d_X7_search_56 : q_dec prog_9_method_3_code 56 (.aload_n 0) 1 57 := ⟨by decide +kernel, rfl⟩
theorem d_X7_search_57 : q_dec prog_9_method_3_code 57 (.getfield 46) 3 60 := ⟨by decide +kernel, rfl⟩
theorem d_X7_search_60 : q_dec prog_9_method_3_code 60 (.if_icmp .ge 61) 3 63 := ⟨by decide +kernel, rfl⟩
theorem d_X7_search_63 : q_dec prog_9_method_3_code 63 (.aload_n 0) 1 64 := ⟨by decide +kernel, rfl⟩
theorem d_X7_search_64 : q_dec prog_9_method_3_code 64 (.getfield 18) 3 67 := ⟨by decide +kernel, rfl⟩
theorem d_X7_search_67 : q_dec prog_9_method_3_code 67 (.bipush (-6)) 2 69 := ⟨by decide +kernel, rfl⟩
theorem d_X7_search_69 : q_dec prog_9_method_3_code 69 (.if_icmp .ne 52) 3 72 := ⟨by decide +kernel, rfl⟩
theorem d_X7_search_72 : q_dec prog_9_method_3_code 72 (.iconst 0) 1 73 := ⟨by decide +kernel, rfl⟩
theorem d_X7_search_73 : q_dec prog_9_method_3_code 73 (.istore 6) 2 75 := ⟨by decide +kernel, rfl⟩
theorem d_X7_search_75 : q_dec prog_9_method_3_code 75 (.iload 6) 2 77 := ⟨by decide +kernel, rfl⟩
theorem d_X7_search_77 : q_dec prog_9_method_3_code 77 (.iconst 3) 1 78 := ⟨by decide +kernel, rfl⟩
theorem d_X7_search_78 : q_dec prog_9_method_3_code 78 (.if_icmp .ge 37) 3 81 := ⟨by decide +kernel, rfl⟩
theorem d_X7_search_81 : q_dec prog_9_method_3_code 81 (.aload_n 0) 1 82 := ⟨by decide +kernel, rfl⟩
theorem d_X7_search_82 : q_dec prog_9_method_3_code 82 (.getfield 18) 3 85 := ⟨by decide +kernel, rfl⟩
theorem d_X7_search_85 : q_dec prog_9_method_3_code 85 (.bipush (-6)) 2 87 := ⟨by decide +kernel, rfl⟩
theorem d_X7_search_87 : q_dec prog_9_method_3_code 87 (.if_icmp .ne 28) 3 90 := ⟨by decide +kernel, rfl⟩
theorem d_X7_search_90 : q_dec prog_9_method_3_code 90 (.aload_n 0) 1 91 := ⟨by decide +kernel, rfl⟩
theorem d_X7_search_91 : q_dec prog_9_method_3_code 91 (.aload_n 0) 1 92 := ⟨by decide +kernel, rfl⟩
theorem d_X7_search_92 : q_dec prog_9_method_3_code 92 (.getfield 11) 3 95 := ⟨by decide +kernel, rfl⟩
theorem d_X7_search_95 : q_dec prog_9_method_3_code 95 (.iload 5) 2 97 := ⟨by decide +kernel, rfl⟩
theorem d_X7_search_97 : q_dec prog_9_method_3_code 97 (.iaload) 1 98 := ⟨by decide +kernel, rfl⟩
theorem d_X7_search_98 : q_dec prog_9_method_3_code 98 (.iload 6) 2 100 := ⟨by decide +kernel, rfl⟩
theorem d_X7_search_100 : q_dec prog_9_method_3_code 100 (.aload_n 1) 1 101 := ⟨by decide +kernel, rfl⟩
theorem d_X7_search_101 : q_dec prog_9_method_3_code 101 (.getfield 52) 3 104 := ⟨by decide +kernel, rfl⟩
theorem d_X7_search_104 : q_dec prog_9_method_3_code 104 (.iload_n 2) 1 105 := ⟨by decide +kernel, rfl⟩
theorem d_X7_search_105 : q_dec prog_9_method_3_code 105 (.iload_n 3) 1 106 := ⟨by decide +kernel, rfl⟩
theorem d_X7_search_106 : q_dec prog_9_method_3_code 106 (.invokevirtual 63) 3 109 := ⟨by decide +kernel, rfl⟩
theorem d_X7_search_109 : q_dec prog_9_method_3_code 109 (.iinc 6 1) 3 112 := ⟨by decide +kernel, rfl⟩
theorem d_X7_search_112 : q_dec prog_9_method_3_code 112 (.goto (-37)) 3 115 := ⟨by decide +kernel, rfl⟩
theorem d_X7_search_115 : q_dec prog_9_method_3_code 115 (.iinc 5 1) 3 118 := ⟨by decide +kernel, rfl⟩
theorem d_X7_search_118 : q_dec prog_9_method_3_code 118 (.goto (-72)) 3 121 := ⟨by decide +kernel, rfl⟩
theorem d_X7_search_121 : q_dec prog_9_method_3_code 121 (.return_) 1 122 := ⟨by decide +kernel, rfl⟩
theorem m_X7_search : q_wV y_X7_search prog_9_method_3_code 7 none 3 := ⟨q_mem 501 (by decide +kernel) (by decide +kernel), q_mem 500 (by decide +kernel) (by decide +kernel), q_memS (n := 5) 6 (by decide +kernel), q_mem 7 (by decide +kernel) (by decide +kernel), by decide +kernel⟩
theorem d_X7_find_0 : q_dec prog_9_method_2_code 0 (.aload_n 0) 1 1 := ⟨by decide +kernel, rfl⟩
theorem d_X7_find_1 : q_dec prog_9_method_2_code 1 (.bipush (-6)) 2 3 := ⟨by decide +kernel, rfl⟩
theorem d_X7_find_3 : q_dec prog_9_method_2_code 3 (.putfield 18) 3 6 := ⟨by decide +kernel, rfl⟩
theorem d_X7_find_6 : q_dec prog_9_method_2_code 6 (.aload_n 0) 1 7 := ⟨by decide +kernel, rfl⟩
theorem d_X7_find_7 : q_dec prog_9_method_2_code 7 (.bipush (-6)) 2 9 := ⟨by decide +kernel, rfl⟩
theorem d_X7_find_9 : q_dec prog_9_method_2_code 9 (.putfield 22) 3 12 := ⟨by decide +kernel, rfl⟩
theorem d_X7_find_12 : q_dec prog_9_method_2_code 12 (.aload_n 1) 1 13 := ⟨by decide +kernel, rfl⟩
theorem d_X7_find_13 : q_dec prog_9_method_2_code 13 (.getfield 25) 3 16 := ⟨by decide +kernel, rfl⟩
theorem d_X7_find_16 : q_dec prog_9_method_2_code 16 (.iconst 0) 1 17 := ⟨by decide +kernel, rfl⟩
theorem d_X7_find_17 : q_dec prog_9_method_2_code 17 (.iaload) 1 18 := ⟨by decide +kernel, rfl⟩
theorem d_X7_find_18 : q_dec prog_9_method_2_code 18 (.istore 4) 2 20 := ⟨by decide +kernel, rfl⟩
theorem d_X7_find_20 : q_dec prog_9_method_2_code 20 (.iload 4) 2 22 := ⟨by decide +kernel, rfl⟩
theorem d_X7_find_22 : q_dec prog_9_method_2_code 22 (.iload_n 2) 1 23 := ⟨by decide +kernel, rfl⟩
theorem d_X7_find_23 : q_dec prog_9_method_2_code 23 (.if_icmp .ne 11) 3 26 := ⟨by decide +kernel, rfl⟩
theorem d_X7_find_26 : q_dec prog_9_method_2_code 26 (.aload_n 0) 1 27 := ⟨by decide +kernel, rfl⟩
theorem d_X7_find_27 : q_dec prog_9_method_2_code 27 (.iconst 0) 1 28 := ⟨by decide +kernel, rfl⟩
theorem d_X7_find_28 : q_dec prog_9_method_2_code 28 (.putfield 18) 3 31 := ⟨by decide +kernel, rfl⟩
theorem d_X7_find_31 : q_dec prog_9_method_2_code 31 (.goto 45) 3 34 := ⟨by decide +kernel, rfl⟩
theorem d_X7_find_34 : q_dec prog_9_method_2_code 34 (.iload_n 3) 1 35 := ⟨by decide +kernel, rfl⟩
theorem d_X7_find_35 : q_dec prog_9_method_2_code 35 (.bipush (-6)) 2 37 := ⟨by decide +kernel, rfl⟩
theorem d_X7_find_37 : q_dec prog_9_method_2_code 37 (.if_icmp .ne 32) 3 40 := ⟨by decide +kernel, rfl⟩
theorem d_X7_find_40 : q_dec prog_9_method_2_code 40 (.aload_n 0) 1 41 := ⟨by decide +kernel, rfl⟩
theorem d_X7_find_41 : q_dec prog_9_method_2_code 41 (.iload_n 2) 1 42 := ⟨by decide +kernel, rfl⟩
theorem d_X7_find_42 : q_dec prog_9_method_2_code 42 (.iload 4) 2 44 := ⟨by decide +kernel, rfl⟩
theorem d_X7_find_44 : q_dec prog_9_method_2_code 44 (.isub) 1 45 := ⟨by decide +kernel, rfl⟩
theorem d_X7_find_45 : q_dec prog_9_method_2_code 45 (.invokestatic 30) 3 48 := ⟨by decide +kernel, rfl⟩
theorem d_X7_find_48 : q_dec prog_9_method_2_code 48 (.putfield 18) 3 51 := ⟨by decide +kernel, rfl⟩
theorem d_X7_find_51 : q_dec prog_9_method_2_code 51 (.aload_n 0) 1 52 := ⟨by decide +kernel, rfl⟩
theorem d_X7_find_52 : q_dec prog_9_method_2_code 52 (.iload_n 2) 1 53 := ⟨by decide +kernel, rfl⟩
theorem d_X7_find_53 : q_dec prog_9_method_2_code 53 (.iload 4) 2 55 := ⟨by decide +kernel, rfl⟩
theorem d_X7_find_55 : q_dec prog_9_method_2_code 55 (.if_icmp .ge 7) 3 58 := ⟨by decide +kernel, rfl⟩
theorem d_X7_find_58 : q_dec prog_9_method_2_code 58 (.iconst 1) 1 59 := ⟨by decide +kernel, rfl⟩
theorem d_X7_find_59 : q_dec prog_9_method_2_code 59 (.goto 4) 3 62 := ⟨by decide +kernel, rfl⟩
theorem d_X7_find_62 : q_dec prog_9_method_2_code 62 (.iconst 2) 1 63 := ⟨by decide +kernel, rfl⟩
theorem d_X7_find_63 : q_dec prog_9_method_2_code 63 (.putfield 22) 3 66 := ⟨by decide +kernel, rfl⟩
theorem d_X7_find_66 : q_dec prog_9_method_2_code 66 (.goto 10) 3 69 := ⟨by decide +kernel, rfl⟩
theorem d_X7_find_69 : q_dec prog_9_method_2_code 69 (.aload_n 0) 1 70 := ⟨by decide +kernel, rfl⟩
theorem d_X7_find_70 : q_dec prog_9_method_2_code 70 (.aload_n 1) 1 71 := ⟨by decide +kernel, rfl⟩
theorem d_X7_find_71 : q_dec prog_9_method_2_code 71 (.iload_n 2) 1 72 := ⟨by decide +kernel, rfl⟩
theorem d_X7_find_72 : q_dec prog_9_method_2_code 72 (.iload_n 3) 1 73 := ⟨by decide +kernel, rfl⟩
theorem d_X7_find_73 : q_dec prog_9_method_2_code 73 (.invokevirtual 36) 3 76 := ⟨by decide +kernel, rfl⟩
theorem d_X7_find_76 : q_dec prog_9_method_2_code 76 (.return_) 1 77 := ⟨by decide +kernel, rfl⟩
theorem m_X7_find : q_wV y_X7_find prog_9_method_2_code 5 none 3 := ⟨q_mem 496 (by decide +kernel) (by decide +kernel), q_mem 494 (by decide +kernel) (by decide +kernel), q_mem 495 (by decide +kernel) (by decide +kernel), q_mem 7 (by decide +kernel) (by decide +kernel), by decide +kernel⟩
theorem d_X0_letThrough_0 : q_dec prog_2_method_3_code 0 (.iload_n 3) 1 1 := ⟨by decide +kernel, rfl⟩
theorem d_X0_letThrough_1 : q_dec prog_2_method_3_code 1 (.aload_n 0) 1 2 := ⟨by decide +kernel, rfl⟩
theorem d_X0_letThrough_2 : q_dec prog_2_method_3_code 2 (.getfield 23) 3 5 := ⟨by decide +kernel, rfl⟩
theorem d_X0_letThrough_5 : q_dec prog_2_method_3_code 5 (.if_icmp .lt 4) 3 8 := ⟨by decide +kernel, rfl⟩
theorem d_X0_letThrough_8 : q_dec prog_2_method_3_code 8 (.return_) 1 9 := ⟨by decide +kernel, rfl⟩
theorem d_X0_letThrough_9 : q_dec prog_2_method_3_code 9 (.iload_n 1) 1 10 := ⟨by decide +kernel, rfl⟩
theorem d_X0_letThrough_10 : q_dec prog_2_method_3_code 10 (.ifCond .ne 15) 3 13 := ⟨by decide +kernel, rfl⟩
theorem d_X0_letThrough_13 : q_dec prog_2_method_3_code 13 (.aload_n 0) 1 14 := ⟨by decide +kernel, rfl⟩
theorem d_X0_letThrough_14 : q_dec prog_2_method_3_code 14 (.iload_n 3) 1 15 := ⟨by decide +kernel, rfl⟩
theorem d_X0_letThrough_15 : q_dec prog_2_method_3_code 15 (.putfield 23) 3 18 := ⟨by decide +kernel, rfl⟩
theorem d_X0_letThrough_18 : q_dec prog_2_method_3_code 18 (.aload_n 0) 1 19 := ⟨by decide +kernel, rfl⟩
theorem d_X0_letThrough_19 : q_dec prog_2_method_3_code 19 (.iload 4) 2 21 := ⟨by decide +kernel, rfl⟩
theorem d_X0_letThrough_21 : q_dec prog_2_method_3_code 21 (.putfield 30) 3 24 := ⟨by decide +kernel, rfl⟩
theorem d_X0_letThrough_24 : q_dec prog_2_method_3_code 24 (.return_) 1 25 := ⟨by decide +kernel, rfl⟩
theorem d_X0_letThrough_25 : q_dec prog_2_method_3_code 25 (.iconst 0) 1 26 := ⟨by decide +kernel, rfl⟩
theorem d_X0_letThrough_26 : q_dec prog_2_method_3_code 26 (.istore 5) 2 28 := ⟨by decide +kernel, rfl⟩
theorem d_X0_letThrough_28 : q_dec prog_2_method_3_code 28 (.iload 5) 2 30 := ⟨by decide +kernel, rfl⟩
theorem d_X0_letThrough_30 : q_dec prog_2_method_3_code 30 (.bipush 6) 2 32 := ⟨by decide +kernel, rfl⟩
theorem d_X0_letThrough_32 : q_dec prog_2_method_3_code 32 (.if_icmp .ge 74) 3 35 := ⟨by decide +kernel, rfl⟩
theorem d_X0_letThrough_35 : q_dec prog_2_method_3_code 35 (.iload_n 1) 1 36 := ⟨by decide +kernel, rfl⟩
theorem d_X0_letThrough_36 : q_dec prog_2_method_3_code 36 (.iload 5) 2 38 := ⟨by decide +kernel, rfl⟩
theorem d_X0_letThrough_38 : q_dec prog_2_method_3_code 38 (.ishr) 1 39 := ⟨by decide +kernel, rfl⟩
theorem d_X0_letThrough_39 : q_dec prog_2_method_3_code 39 (.iconst 1) 1 40 := ⟨by decide +kernel, rfl⟩
theorem d_X0_letThrough_40 : q_dec prog_2_method_3_code 40 (.iand) 1 41 := ⟨by decide +kernel, rfl⟩
theorem d_X0_letThrough_41 : q_dec prog_2_method_3_code 41 (.iconst 1) 1 42 := ⟨by decide +kernel, rfl⟩
theorem d_X0_letThrough_42 : q_dec prog_2_method_3_code 42 (.if_icmp .ne 58) 3 45 := ⟨by decide +kernel, rfl⟩
theorem d_X0_letThrough_45 : q_dec prog_2_method_3_code 45 (.iload_n 2) 1 46 := ⟨by decide +kernel, rfl⟩
theorem d_X0_letThrough_46 : q_dec prog_2_method_3_code 46 (.aload_n 0) 1 47 := ⟨by decide +kernel, rfl⟩
theorem d_X0_letThrough_47 : q_dec prog_2_method_3_code 47 (.getfield 9) 3 50 := ⟨by decide +kernel, rfl⟩
theorem d_X0_letThrough_50 : q_dec prog_2_method_3_code 50 (.iload 5) 2 52 := ⟨by decide +kernel, rfl⟩
theorem d_X0_letThrough_52 : q_dec prog_2_method_3_code 52 (.iaload) 1 53 := ⟨by decide +kernel, rfl⟩
theorem d_X0_letThrough_53 : q_dec prog_2_method_3_code 53 (.invokestatic 33) 3 56 := ⟨by decide +kernel, rfl⟩
theorem d_X0_letThrough_56 : q_dec prog_2_method_3_code 56 (.istore 6) 2 58 := ⟨by decide +kernel, rfl⟩
theorem d_X0_letThrough_58 : q_dec prog_2_method_3_code 58 (.aload_n 0) 1 59 := ⟨by decide +kernel, rfl⟩
theorem d_X0_letThrough_59 : q_dec prog_2_method_3_code 59 (.iload_n 1) 1 60 := ⟨by decide +kernel, rfl⟩
theorem d_X0_letThrough_60 : q_dec prog_2_method_3_code 60 (.iconst 1) 1 61 := ⟨by decide +kernel, rfl⟩
theorem d_X0_letThrough_61 : q_dec prog_2_method_3_code 61 (.iload 5) 2 63 := ⟨by decide +kernel, rfl⟩
theorem d_X0_letThrough_63 : q_dec prog_2_method_3_code 63 (.ishl) 1 64 := ⟨by decide +kernel, rfl⟩
theorem d_X0_letThrough_64 : q_dec prog_2_method_3_code 64 (.iconst (-1)) 1 65 := ⟨by decide +kernel, rfl⟩
theorem d_X0_letThrough_65 : q_dec prog_2_method_3_code 65 (.ixor) 1 66 := ⟨by decide +kernel, rfl⟩
theorem d_X0_letThrough_66 : q_dec prog_2_method_3_code 66 (.iand) 1 67 := ⟨by decide +kernel, rfl⟩
theorem d_X0_letThrough_67 : q_dec prog_2_method_3_code 67 (.iload 6) 2 69 := ⟨by decide +kernel, rfl⟩
theorem d_X0_letThrough_69 : q_dec prog_2_method_3_code 69 (.aload_n 0) 1 70 := ⟨by decide +kernel, rfl⟩
theorem d_X0_letThrough_70 : q_dec prog_2_method_3_code 70 (.getfield 15) 3 73 := ⟨by decide +kernel, rfl⟩
theorem d_X0_letThrough_73 : q_dec prog_2_method_3_code 73 (.iload 5) 2 75 := ⟨by decide +kernel, rfl⟩
theorem d_X0_letThrough_75 : q_dec prog_2_method_3_code 75 (.iaload) 1 76 := ⟨by decide +kernel, rfl⟩
theorem d_X0_letThrough_76 : q_dec prog_2_method_3_code 76 (.iadd) 1 77 := ⟨by decide +kernel, rfl⟩
theorem d_X0_letThrough_77 : q_dec prog_2_method_3_code 77 (.iload_n 3) 1 78 := ⟨by decide +kernel, rfl⟩
theorem d_X0_letThrough_78 : q_dec prog_2_method_3_code 78 (.iload 6) 2 80 := ⟨by decide +kernel, rfl⟩
theorem d_X0_letThrough_80 : q_dec prog_2_method_3_code 80 (.iadd) 1 81 := ⟨by decide +kernel, rfl⟩
theorem d_X0_letThrough_81 : q_dec prog_2_method_3_code 81 (.aload_n 0) 1 82 := ⟨by decide +kernel, rfl⟩
theorem d_X0_letThrough_82 : q_dec prog_2_method_3_code 82 (.getfield 9) 3 85 := ⟨by decide +kernel, rfl⟩
theorem d_X0_letThrough_85 : q_dec prog_2_method_3_code 85 (.iload 5) 2 87 := ⟨by decide +kernel, rfl⟩
theorem d_X0_letThrough_87 : q_dec prog_2_method_3_code 87 (.iaload) 1 88 := ⟨by decide +kernel, rfl⟩
theorem d_X0_letThrough_88 : q_dec prog_2_method_3_code 88 (.isub) 1 89 := ⟨by decide +kernel, rfl⟩
theorem d_X0_letThrough_89 : q_dec prog_2_method_3_code 89 (.iload 4) 2 91 := ⟨by decide +kernel, rfl⟩
theorem d_X0_letThrough_91 : q_dec prog_2_method_3_code 91 (.bipush 10) 2 93 := ⟨by decide +kernel, rfl⟩
theorem d_X0_letThrough_93 : q_dec prog_2_method_3_code 93 (.imul) 1 94 := ⟨by decide +kernel, rfl⟩
theorem d_X0_letThrough_94 : q_dec prog_2_method_3_code 94 (.iload 5) 2 96 := ⟨by decide +kernel, rfl⟩
theorem d_X0_letThrough_96 : q_dec prog_2_method_3_code 96 (.iadd) 1 97 := ⟨by decide +kernel, rfl⟩
theorem d_X0_letThrough_97 : q_dec prog_2_method_3_code 97 (.invokevirtual 26) 3 100 := ⟨by decide +kernel, rfl⟩
theorem d_X0_letThrough_100 : q_dec prog_2_method_3_code 100 (.iinc 5 1) 3 103 := ⟨by decide +kernel, rfl⟩
theorem d_X0_letThrough_103 : q_dec prog_2_method_3_code 103 (.goto (-75)) 3 106 := ⟨by decide +kernel, rfl⟩
theorem d_X0_letThrough_106 : q_dec prog_2_method_3_code 106 (.return_) 1 107 := ⟨by decide +kernel, rfl⟩
theorem m_X0_letThrough : q_wV y_X0_letThrough prog_2_method_3_code 7 none 4 := ⟨q_mem 545 (by decide +kernel) (by decide +kernel), q_mem 544 (by decide +kernel) (by decide +kernel), q_memS (n := 5) 9 (by decide +kernel), q_mem 8 (by decide +kernel) (by decide +kernel), by decide +kernel⟩
theorem d_X0_settle_0 : q_dec prog_2_method_2_code 0 (.iload_n 1) 1 1 := ⟨by decide +kernel, rfl⟩
theorem d_X0_settle_1 : q_dec prog_2_method_2_code 1 (.istore_n 3) 1 2 := ⟨by decide +kernel, rfl⟩
theorem d_X0_settle_2 : q_dec prog_2_method_2_code 2 (.iload_n 2) 1 3 := ⟨by decide +kernel, rfl⟩
theorem d_X0_settle_3 : q_dec prog_2_method_2_code 3 (.istore 4) 2 5 := ⟨by decide +kernel, rfl⟩
theorem d_X0_settle_5 : q_dec prog_2_method_2_code 5 (.aload_n 0) 1 6 := ⟨by decide +kernel, rfl⟩
theorem d_X0_settle_6 : q_dec prog_2_method_2_code 6 (.iconst 0) 1 7 := ⟨by decide +kernel, rfl⟩
theorem d_X0_settle_7 : q_dec prog_2_method_2_code 7 (.putfield 18) 3 10 := ⟨by decide +kernel, rfl⟩
theorem d_X0_settle_10 : q_dec prog_2_method_2_code 10 (.iconst 5) 1 11 := ⟨by decide +kernel, rfl⟩
theorem d_X0_settle_11 : q_dec prog_2_method_2_code 11 (.istore 5) 2 13 := ⟨by decide +kernel, rfl⟩
theorem d_X0_settle_13 : q_dec prog_2_method_2_code 13 (.iload 5) 2 15 := ⟨by decide +kernel, rfl⟩
theorem d_X0_settle_15 : q_dec prog_2_method_2_code 15 (.ifCond .lt 71) 3 18 := ⟨by decide +kernel, rfl⟩
theorem d_X0_settle_18 : q_dec prog_2_method_2_code 18 (.aload_n 0) 1 19 := ⟨by decide +kernel, rfl⟩
theorem d_X0_settle_19 : q_dec prog_2_method_2_code 19 (.getfield 9) 3 22 := ⟨by decide +kernel, rfl⟩
theorem d_X0_settle_22 : q_dec prog_2_method_2_code 22 (.iload 5) 2 24 := ⟨by decide +kernel, rfl⟩
theorem d_X0_settle_24 : q_dec prog_2_method_2_code 24 (.iload_n 3) 1 25 := ⟨by decide +kernel, rfl⟩
theorem d_X0_settle_25 : q_dec prog_2_method_2_code 25 (.bipush 10) 2 27 := ⟨by decide +kernel, rfl⟩
theorem d_X0_settle_27 : q_dec prog_2_method_2_code 27 (.irem) 1 28 := ⟨by decide +kernel, rfl⟩
theorem d_X0_settle_28 : q_dec prog_2_method_2_code 28 (.iastore) 1 29 := ⟨by decide +kernel, rfl⟩
theorem d_X0_settle_29 : q_dec prog_2_method_2_code 29 (.aload_n 0) 1 30 := ⟨by decide +kernel, rfl⟩
theorem d_X0_settle_30 : q_dec prog_2_method_2_code 30 (.getfield 15) 3 33 := ⟨by decide +kernel, rfl⟩
theorem d_X0_settle_33 : q_dec prog_2_method_2_code 33 (.iload 5) 2 35 := ⟨by decide +kernel, rfl⟩
theorem d_X0_settle_35 : q_dec prog_2_method_2_code 35 (.iload 4) 2 37 := ⟨by decide +kernel, rfl⟩
theorem d_X0_settle_37 : q_dec prog_2_method_2_code 37 (.bipush 10) 2 39 := ⟨by decide +kernel, rfl⟩
theorem d_X0_settle_39 : q_dec prog_2_method_2_code 39 (.irem) 1 40 := ⟨by decide +kernel, rfl⟩
theorem d_X0_settle_40 : q_dec prog_2_method_2_code 40 (.iastore) 1 41 := ⟨by decide +kernel, rfl⟩
theorem d_X0_settle_41 : q_dec prog_2_method_2_code 41 (.aload_n 0) 1 42 := ⟨by decide +kernel, rfl⟩
theorem d_X0_settle_42 : q_dec prog_2_method_2_code 42 (.dup) 1 43 := ⟨by decide +kernel, rfl⟩
theorem d_X0_settle_43 : q_dec prog_2_method_2_code 43 (.getfield 18) 3 46 := ⟨by decide +kernel, rfl⟩
theorem d_X0_settle_46 : q_dec prog_2_method_2_code 46 (.aload_n 0) 1 47 := ⟨by decide +kernel, rfl⟩
theorem d_X0_settle_47 : q_dec prog_2_method_2_code 47 (.getfield 15) 3 50 := ⟨by decide +kernel, rfl⟩
theorem d_X0_settle_50 : q_dec prog_2_method_2_code 50 (.iload 5) 2 52 := ⟨by decide +kernel, rfl⟩
theorem d_X0_settle_52 : q_dec prog_2_method_2_code 52 (.iaload) 1 53 := ⟨by decide +kernel, rfl⟩
theorem d_X0_settle_53 : q_dec prog_2_method_2_code 53 (.ifCond .le 10) 3 56 := ⟨by decide +kernel, rfl⟩
theorem d_X0_settle_56 : q_dec prog_2_method_2_code 56 (.iconst 1) 1 57 := ⟨by decide +kernel, rfl⟩
theorem d_X0_settle_57 : q_dec prog_2_method_2_code 57 (.iload 5) 2 59 := ⟨by decide +kernel, rfl⟩
theorem d_X0_settle_59 : q_dec prog_2_method_2_code 59 (.ishl) 1 60 := ⟨by decide +kernel, rfl⟩
theorem d_X0_settle_60 : q_dec prog_2_method_2_code 60 (.goto 4) 3 63 := ⟨by decide +kernel, rfl⟩
theorem d_X0_settle_63 : q_dec prog_2_method_2_code 63 (.iconst 0) 1 64 := ⟨by decide +kernel, rfl⟩
theorem d_X0_settle_64 : q_dec prog_2_method_2_code 64 (.ior) 1 65 := ⟨by decide +kernel, rfl⟩
theorem d_X0_settle_65 : q_dec prog_2_method_2_code 65 (.putfield 18) 3 68 := ⟨by decide +kernel, rfl⟩
theorem d_X0_settle_68 : q_dec prog_2_method_2_code 68 (.iload_n 3) 1 69 := ⟨by decide +kernel, rfl⟩
theorem d_X0_settle_69 : q_dec prog_2_method_2_code 69 (.bipush 10) 2 71 := ⟨by decide +kernel, rfl⟩
theorem d_X0_settle_71 : q_dec prog_2_method_2_code 71 (.idiv) 1 72 := ⟨by decide +kernel, rfl⟩
theorem d_X0_settle_72 : q_dec prog_2_method_2_code 72 (.istore_n 3) 1 73 := ⟨by decide +kernel, rfl⟩
theorem d_X0_settle_73 : q_dec prog_2_method_2_code 73 (.iload 4) 2 75 := ⟨by decide +kernel, rfl⟩
theorem d_X0_settle_75 : q_dec prog_2_method_2_code 75 (.bipush 10) 2 77 := ⟨by decide +kernel, rfl⟩
theorem d_X0_settle_77 : q_dec prog_2_method_2_code 77 (.idiv) 1 78 := ⟨by decide +kernel, rfl⟩
theorem d_X0_settle_78 : q_dec prog_2_method_2_code 78 (.istore 4) 2 80 := ⟨by decide +kernel, rfl⟩
theorem d_X0_settle_80 : q_dec prog_2_method_2_code 80 (.iinc 5 (-1)) 3 83 := ⟨by decide +kernel, rfl⟩
theorem d_X0_settle_83 : q_dec prog_2_method_2_code 83 (.goto (-70)) 3 86 := ⟨by decide +kernel, rfl⟩
theorem d_X0_settle_86 : q_dec prog_2_method_2_code 86 (.aload_n 0) 1 87 := ⟨by decide +kernel, rfl⟩
theorem d_X0_settle_87 : q_dec prog_2_method_2_code 87 (.ldc 22) 2 89 := ⟨by decide +kernel, rfl⟩
theorem d_X0_settle_89 : q_dec prog_2_method_2_code 89 (.putfield 23) 3 92 := ⟨by decide +kernel, rfl⟩
theorem d_X0_settle_92 : q_dec prog_2_method_2_code 92 (.aload_n 0) 1 93 := ⟨by decide +kernel, rfl⟩
theorem d_X0_settle_93 : q_dec prog_2_method_2_code 93 (.aload_n 0) 1 94 := ⟨by decide +kernel, rfl⟩
theorem d_X0_settle_94 : q_dec prog_2_method_2_code 94 (.getfield 18) 3 97 := ⟨by decide +kernel, rfl⟩
theorem d_X0_settle_97 : q_dec prog_2_method_2_code 97 (.iconst 0) 1 98 := ⟨by decide +kernel, rfl⟩
theorem d_X0_settle_98 : q_dec prog_2_method_2_code 98 (.iconst 0) 1 99 := ⟨by decide +kernel, rfl⟩
theorem d_X0_settle_99 : q_dec prog_2_method_2_code 99 (.iconst 0) 1 100 := ⟨by decide +kernel, rfl⟩
theorem d_X0_settle_100 : q_dec prog_2_method_2_code 100 (.invokevirtual 26) 3 103 := ⟨by decide +kernel, rfl⟩
theorem d_X0_settle_103 : q_dec prog_2_method_2_code 103 (.return_) 1 104 := ⟨by decide +kernel, rfl⟩
theorem m_X0_settle : q_wV y_X0_settle prog_2_method_2_code 6 none 2 := ⟨q_mem 540 (by decide +kernel) (by decide +kernel), q_mem 538 (by decide +kernel) (by decide +kernel), q_mem 539 (by decide +kernel) (by decide +kernel), q_mem 8 (by decide +kernel) (by decide +kernel), by decide +kernel⟩
theorem k_w_WaterOthers_CalmRows_13 : Cond.constantLong "WaterOthers$CalmRows" 13 (10) ∈ q_tbl := q_mem 626 (by decide +kernel) (by decide +kernel)
def f_X1_tenTo_4 (N : Nat)  (x0 : Int32)  : Nat → Int64 → Int32 → Option Int64
  | 0, _, _ => none
  | n + 1, x1, x3 =>
    if x0 ≤ x3 then (some x1)
    else (f_X1_tenTo_4 N x0 n (x1 * 10) (x3 + 1))
def f_X1_tenTo (N : Nat) (a0 : Int32) : Option Int64 :=
  f_X1_tenTo_4 N a0 N 1 0
set_option maxRecDepth 20000 in
theorem t_X1_tenTo_4 {Z : q_Z} {Γ : q_C} {σ : q_S} {r : Int64} (B : q_B Z Γ prog_3_method_2_code "WaterOthers$CalmRows" 4 1) (En : q_E Z Γ (some .long) (some (.long r)) σ) (N : Nat)  (x0 : Int32)   : ∀ (n : Nat) (x1 : Int64) (x3 : Int32), f_X1_tenTo_4 N x0 n x1 x3 = some r → q_G Z Γ 4 σ 4 [(0, .int x0), (1, .long x1), (3, .int x3)] [] := by
  intro n
  induction n with
  | zero =>
    intro x1 x3 h
    cases h
  | succ n ih =>
    intro x1 x3 h
    unfold f_X1_tenTo_4 at h
    refine g_iload_n B d_X1_tenTo_4 rfl rfl ?_
    refine g_iload_n B d_X1_tenTo_5 rfl rfl ?_
    refine g_icmp_ge (tgt := 21) B d_X1_tenTo_6 (by decide) h (fun h => ?_) (fun h => ?_)
    · refine g_lload_n B d_X1_tenTo_21 rfl rfl ?_
      obtain rfl := q_po h
      exact g_lret B En d_X1_tenTo_22
    · refine g_lload_n B d_X1_tenTo_9 rfl rfl ?_
      refine g_ldc2 (v := 10) B d_X1_tenTo_10 k_w_WaterOthers_CalmRows_13 ?_
      refine g_lmul B d_X1_tenTo_13 ?_
      refine g_lstore_n B d_X1_tenTo_14 rfl (by decide) ?_
      refine g_iinc (v := (x3 + 1)) B d_X1_tenTo_15 rfl rfl (by decide) ?_
      refine g_goto (tgt := 4) B d_X1_tenTo_18 (by decide) ?_
      exact g_cut rfl (ih (x1 * 10) (x3 + 1) h)
set_option maxRecDepth 20000 in
theorem t_X1_tenTo {Z : q_Z} {l : Launch} (N : Nat) (a0 : Int32)  (σ : q_S) {r : Int64} (h : f_X1_tenTo N a0 = some r) : q_M Z l y_X1_tenTo prog_3_method_2_code 4 (some .long) 1 [.int a0] σ (some (.long r)) σ := by
  refine q_met (by decide +kernel) (Nat.le_of_ble_eq_true rfl) (fun Γ hΓ B En => ?_)
  unfold f_X1_tenTo at h
  refine g_cut (lv' := [(0, .int a0)]) rfl ?_
  refine g_lconst (v := 1) B d_X1_tenTo_0 (by decide) ?_
  refine g_lstore_n B d_X1_tenTo_1 rfl (by decide) ?_
  refine g_iconst (v := 0) B d_X1_tenTo_2 (by decide) ?_
  refine g_istore_n B d_X1_tenTo_3 rfl (by decide) ?_
  exact g_cut rfl (t_X1_tenTo_4 B En N a0 N 1 0 h)

theorem w_WaterOthers_CalmRows_9 : Cond.fieldLink "WaterOthers$CalmRows" 9 "WaterOthers$CalmRows" "ends" "[J" ∈ q_tbl := q_mem 249 (by decide +kernel) (by decide +kernel)
def f_X1_sumOfEnds_5 (N : Nat)  (x1 : Int32) (σ : q_S) : Nat → Int64 → Int32 → Option Int64
  | 0, _, _ => none
  | n + 1, x2, x4 =>
    if x1 ≤ x4 then (some x2)
    else (if (15 : Int32) < x4 then (some x2)
      else (if ¬ ((x4 : Int32) < 0 ∨ 16 ≤ (x4 : Int32).toNatClampNeg) then f_X1_sumOfEnds_5 N x1 σ n (x2 + (σ.2 83 (x4 : Int32).toNatClampNeg)) (x4 + 1) else none))
def f_X1_sumOfEnds (N : Nat) (a0 : Int32) (σ : q_S) : Option Int64 :=
  f_X1_sumOfEnds_5 N a0 σ N 0 0
set_option maxRecDepth 20000 in
theorem t_X1_sumOfEnds_5 {Z : q_Z} {Γ : q_C} {σ : q_S} {r : Int64} (B : q_B Z Γ prog_3_method_6_code "WaterOthers$CalmRows" 5 1) (En : q_E Z Γ (some .long) (some (.long r)) σ) (N : Nat)  (x1 : Int32)   : ∀ (n : Nat) (x2 : Int64) (x4 : Int32), f_X1_sumOfEnds_5 N x1 σ n x2 x4 = some r → q_G Z Γ 5 σ 5 [(0, .ref (Z.1 82)), (1, .int x1), (2, .long x2), (4, .int x4)] [] := by
  intro n
  induction n with
  | zero =>
    intro x2 x4 h
    cases h
  | succ n ih =>
    intro x2 x4 h
    unfold f_X1_sumOfEnds_5 at h
    refine g_iload B d_X1_sumOfEnds_5 rfl ?_
    refine g_iload_n B d_X1_sumOfEnds_7 rfl rfl ?_
    refine g_icmp_ge (tgt := 34) B d_X1_sumOfEnds_8 (by decide) h (fun h => ?_) (fun h => ?_)
    · refine g_lload_n B d_X1_sumOfEnds_34 rfl rfl ?_
      obtain rfl := q_po h
      exact g_lret B En d_X1_sumOfEnds_35
    · refine g_iload B d_X1_sumOfEnds_11 rfl ?_
      refine g_bipush (v := 15) B d_X1_sumOfEnds_13 (by decide) ?_
      refine g_icmp_gt (tgt := 34) B d_X1_sumOfEnds_15 (by decide) h (fun h => ?_) (fun h => ?_)
      · refine g_lload_n B d_X1_sumOfEnds_34 rfl rfl ?_
        obtain rfl := q_po h
        exact g_lret B En d_X1_sumOfEnds_35
      · refine g_lload_n B d_X1_sumOfEnds_18 rfl rfl ?_
        refine g_aload_n B d_X1_sumOfEnds_19 rfl rfl ?_
        refine g_get (ci := 1) (k := 0) (v := .ref (Z.1 83)) B d_X1_sumOfEnds_20 q_in1 rfl (by decide) rfl (by decide) w_WaterOthers_CalmRows_9 rfl rfl ?_
        refine g_iload B d_X1_sumOfEnds_23 rfl ?_
        obtain ⟨h25, h⟩ := q_chk h
        refine g_lald B d_X1_sumOfEnds_25 (by decide) (fun _ _ => rfl) h25 ?_
        refine g_ladd B d_X1_sumOfEnds_26 ?_
        refine g_lstore_n B d_X1_sumOfEnds_27 rfl (by decide) ?_
        refine g_iinc (v := (x4 + 1)) B d_X1_sumOfEnds_28 rfl rfl (by decide) ?_
        refine g_goto (tgt := 5) B d_X1_sumOfEnds_31 (by decide) ?_
        exact g_cut rfl (ih (x2 + (σ.2 83 (x4 : Int32).toNatClampNeg)) (x4 + 1) h)
set_option maxRecDepth 20000 in
theorem t_X1_sumOfEnds {Z : q_Z} {l : Launch} (N : Nat) (a0 : Int32)  (σ : q_S) {r : Int64} (h : f_X1_sumOfEnds N a0 σ = some r) : q_M Z l y_X1_sumOfEnds prog_3_method_6_code 5 (some .long) 1 [.ref (Z.1 82), .int a0] σ (some (.long r)) σ := by
  refine q_met (by decide +kernel) (Nat.le_of_ble_eq_true rfl) (fun Γ hΓ B En => ?_)
  unfold f_X1_sumOfEnds at h
  refine g_cut (lv' := [(0, .ref (Z.1 82)), (1, .int a0)]) rfl ?_
  refine g_lconst (v := 0) B d_X1_sumOfEnds_0 (by decide) ?_
  refine g_lstore_n B d_X1_sumOfEnds_1 rfl (by decide) ?_
  refine g_iconst (v := 0) B d_X1_sumOfEnds_2 (by decide) ?_
  refine g_istore B d_X1_sumOfEnds_3 (by decide) ?_
  exact g_cut rfl (t_X1_sumOfEnds_5 B En N a0 N 0 0 h)

theorem w_WaterOthers_CalmRows_26 : Cond.methodLink "WaterOthers$CalmRows" 26 y_J7_fill_d0a16 ∈ q_tbl := q_mem 631 (by decide +kernel) (by decide +kernel)
theorem w_WaterOthers_CalmRows_32 : Cond.methodLink "WaterOthers$CalmRows" 32 y_X1_sumOfEnds ∈ q_tbl := q_mem 634 (by decide +kernel) (by decide +kernel)
def f_X1_withoutRow_49 (N : Nat) (k31 : Int32 → q_S → Option (Int64 × q_S)) (x1 : Int32) (x2 : Int32) (x3 : Int32) (x4 : Int32) (x5 : Int64)  : Nat → Int32 → q_S → Option (Int64 × q_S)
  | 0, _, _ => none
  | n + 1, x7, σ =>
    if x7 ≤ 0 then (k31 (x4 + 1) (q_wl σ 83 (0 : Int32).toNatClampNeg (x5 * (Int32.toInt64 (10 - x2)))))
    else (if ¬ (((x7 - 1) : Int32) < 0 ∨ 16 ≤ ((x7 - 1) : Int32).toNatClampNeg) then if ¬ ((x7 : Int32) < 0 ∨ 16 ≤ (x7 : Int32).toNatClampNeg) then f_X1_withoutRow_49 N k31 x1 x2 x3 x4 x5 n (x7 + (-1)) (q_wl σ 83 (x7 : Int32).toNatClampNeg ((σ.2 83 ((x7 - 1) : Int32).toNatClampNeg) * (Int32.toInt64 x2))) else none else none)
def f_X1_withoutRow_31 (N : Nat)  (x1 : Int32) (x2 : Int32) (x3 : Int32)  : Nat → Int32 → q_S → Option (Int64 × q_S)
  | 0, _, _ => none
  | n + 1, x4, σ =>
    if x1 ≤ x4 then ((f_X1_sumOfEnds N x3 σ).bind fun z101 =>
      some (z101, σ))
    else ((f_X1_sumOfEnds N x3 σ).bind fun z39 =>
      f_X1_withoutRow_49 N (fun x4 σ => f_X1_withoutRow_31 N x1 x2 x3 n x4 σ) x1 x2 x3 x4 z39 N (x3 - 1) σ)
def f_X1_withoutRow (N : Nat) (a0 : Int32) (a1 : Int32) (a2 : Int32) (σ : q_S) : Option (Int64 × q_S) :=
  if a2 < 1 then (some (0, σ))
  else (if a2 ≤ 15 then ((f_J7_fill_d0a16 N 83 16 0 σ).bind fun z18 =>
      f_X1_withoutRow_31 N a0 a1 a2 N 0 (q_wl z18 83 (0 : Int32).toNatClampNeg 1))
    else (some (0, σ)))
set_option maxRecDepth 20000 in
theorem t_X1_withoutRow_49 {Z : q_Z} {Γ : q_C} {r : Int64} {σ' : q_S} (B : q_B Z Γ prog_3_method_5_code "WaterOthers$CalmRows" 8 2) (En : q_E Z Γ (some .long) (some (.long r)) σ') (N : Nat) (k31 : Int32 → q_S → Option (Int64 × q_S)) (x1 : Int32) (x2 : Int32) (x3 : Int32) (x4 : Int32) (x5 : Int64) (K31 : ∀ (x4 : Int32) (σ : q_S), k31 x4 σ = some (r, σ') → q_G Z Γ 8 σ 31 [(0, .ref (Z.1 82)), (1, .int x1), (2, .int x2), (3, .int x3), (4, .int x4)] [])  : ∀ (n : Nat) (x7 : Int32) (σ : q_S), f_X1_withoutRow_49 N k31 x1 x2 x3 x4 x5 n x7 σ = some (r, σ') → q_G Z Γ 8 σ 49 [(0, .ref (Z.1 82)), (1, .int x1), (2, .int x2), (3, .int x3), (4, .int x4), (5, .long x5), (7, .int x7)] [] := by
  intro n
  induction n with
  | zero =>
    intro x7 σ h
    cases h
  | succ n ih =>
    intro x7 σ h
    unfold f_X1_withoutRow_49 at h
    refine g_iload B d_X1_withoutRow_49 rfl ?_
    refine g_if_le (tgt := 79) B d_X1_withoutRow_51 (by decide) h (fun h => ?_) (fun h => ?_)
    · refine g_aload_n B d_X1_withoutRow_79 rfl rfl ?_
      refine g_get (ci := 1) (k := 0) (v := .ref (Z.1 83)) B d_X1_withoutRow_80 q_in1 rfl (by decide) rfl (by decide) w_WaterOthers_CalmRows_9 rfl rfl ?_
      refine g_iconst (v := 0) B d_X1_withoutRow_83 (by decide) ?_
      refine g_lload B d_X1_withoutRow_84 rfl ?_
      refine g_bipush (v := 10) B d_X1_withoutRow_86 (by decide) ?_
      refine g_iload_n B d_X1_withoutRow_88 rfl rfl ?_
      refine g_isub B d_X1_withoutRow_89 ?_
      refine g_i2l B d_X1_withoutRow_90 ?_
      refine g_lmul B d_X1_withoutRow_91 ?_
      refine g_last B d_X1_withoutRow_92 (by decide) (fun _ _ => rfl) (by decide) ?_
      refine g_iinc (v := (x4 + 1)) B d_X1_withoutRow_93 rfl rfl (by decide) ?_
      refine g_goto (tgt := 31) B d_X1_withoutRow_96 (by decide) ?_
      exact g_cut rfl (K31 (x4 + 1) (q_wl σ 83 (0 : Int32).toNatClampNeg (x5 * (Int32.toInt64 (10 - x2)))) h)
    · refine g_aload_n B d_X1_withoutRow_54 rfl rfl ?_
      refine g_get (ci := 1) (k := 0) (v := .ref (Z.1 83)) B d_X1_withoutRow_55 q_in1 rfl (by decide) rfl (by decide) w_WaterOthers_CalmRows_9 rfl rfl ?_
      refine g_iload B d_X1_withoutRow_58 rfl ?_
      refine g_aload_n B d_X1_withoutRow_60 rfl rfl ?_
      refine g_get (ci := 1) (k := 0) (v := .ref (Z.1 83)) B d_X1_withoutRow_61 q_in1 rfl (by decide) rfl (by decide) w_WaterOthers_CalmRows_9 rfl rfl ?_
      refine g_iload B d_X1_withoutRow_64 rfl ?_
      refine g_iconst (v := 1) B d_X1_withoutRow_66 (by decide) ?_
      refine g_isub B d_X1_withoutRow_67 ?_
      obtain ⟨h68, h⟩ := q_chk h
      refine g_lald B d_X1_withoutRow_68 (by decide) (fun _ _ => rfl) h68 ?_
      refine g_iload_n B d_X1_withoutRow_69 rfl rfl ?_
      refine g_i2l B d_X1_withoutRow_70 ?_
      refine g_lmul B d_X1_withoutRow_71 ?_
      obtain ⟨h72, h⟩ := q_chk h
      refine g_last B d_X1_withoutRow_72 (by decide) (fun _ _ => rfl) h72 ?_
      refine g_iinc (v := (x7 + (-1))) B d_X1_withoutRow_73 rfl rfl (by decide) ?_
      refine g_goto (tgt := 49) B d_X1_withoutRow_76 (by decide) ?_
      exact g_cut rfl (ih (x7 + (-1)) (q_wl σ 83 (x7 : Int32).toNatClampNeg ((σ.2 83 ((x7 - 1) : Int32).toNatClampNeg) * (Int32.toInt64 x2))) h)
set_option maxRecDepth 20000 in
theorem t_X1_withoutRow_31 {Z : q_Z} {Γ : q_C} {r : Int64} {σ' : q_S} (B : q_B Z Γ prog_3_method_5_code "WaterOthers$CalmRows" 8 2) (En : q_E Z Γ (some .long) (some (.long r)) σ') (N : Nat)  (x1 : Int32) (x2 : Int32) (x3 : Int32)   : ∀ (n : Nat) (x4 : Int32) (σ : q_S), f_X1_withoutRow_31 N x1 x2 x3 n x4 σ = some (r, σ') → q_G Z Γ 8 σ 31 [(0, .ref (Z.1 82)), (1, .int x1), (2, .int x2), (3, .int x3), (4, .int x4)] [] := by
  intro n
  induction n with
  | zero =>
    intro x4 σ h
    cases h
  | succ n ih =>
    intro x4 σ h
    unfold f_X1_withoutRow_31 at h
    refine g_iload B d_X1_withoutRow_31 rfl ?_
    refine g_iload_n B d_X1_withoutRow_33 rfl rfl ?_
    refine g_icmp_ge (tgt := 99) B d_X1_withoutRow_34 (by decide) h (fun h => ?_) (fun h => ?_)
    · refine g_aload_n B d_X1_withoutRow_99 rfl rfl ?_
      refine g_iload_n B d_X1_withoutRow_100 rfl rfl ?_
      obtain ⟨z101, g101, h⟩ := q_bind h
      refine g_callV (p0 := 82) (ci := 1) (As := [.int x3]) (rest := []) B d_X1_withoutRow_101 (t_X1_sumOfEnds N x3 σ g101) m_X1_sumOfEnds w_WaterOthers_CalmRows_32 (by decide) rfl rfl rfl rfl (Nat.le_of_ble_eq_true rfl) (by omega) (by decide) ?_
      obtain ⟨rfl, rfl⟩ := q_ps h
      exact g_lret B En d_X1_withoutRow_104
    · refine g_aload_n B d_X1_withoutRow_37 rfl rfl ?_
      refine g_iload_n B d_X1_withoutRow_38 rfl rfl ?_
      obtain ⟨z39, g39, h⟩ := q_bind h
      refine g_callV (p0 := 82) (ci := 1) (As := [.int x3]) (rest := []) B d_X1_withoutRow_39 (t_X1_sumOfEnds N x3 σ g39) m_X1_sumOfEnds w_WaterOthers_CalmRows_32 (by decide) rfl rfl rfl rfl (Nat.le_of_ble_eq_true rfl) (by omega) (by decide) ?_
      refine g_lstore B d_X1_withoutRow_42 (by decide) ?_
      refine g_iload_n B d_X1_withoutRow_44 rfl rfl ?_
      refine g_iconst (v := 1) B d_X1_withoutRow_45 (by decide) ?_
      refine g_isub B d_X1_withoutRow_46 ?_
      refine g_istore B d_X1_withoutRow_47 (by decide) ?_
      exact g_cut rfl (t_X1_withoutRow_49 B En N (fun x4 σ => f_X1_withoutRow_31 N x1 x2 x3 n x4 σ) x1 x2 x3 x4 z39 (ih) N (x3 - 1) σ h)
set_option maxRecDepth 20000 in
theorem t_X1_withoutRow {Z : q_Z} {l : Launch} (N : Nat) (a0 : Int32) (a1 : Int32) (a2 : Int32)  (σ : q_S) {r : Int64} {σ' : q_S} (h : f_X1_withoutRow N a0 a1 a2 σ = some (r, σ')) : q_M Z l y_X1_withoutRow prog_3_method_5_code 8 (some .long) 2 [.ref (Z.1 82), .int a0, .int a1, .int a2] σ (some (.long r)) σ' := by
  refine q_met (by decide +kernel) (Nat.le_of_ble_eq_true rfl) (fun Γ hΓ B En => ?_)
  unfold f_X1_withoutRow at h
  refine g_cut (lv' := [(0, .ref (Z.1 82)), (1, .int a0), (2, .int a1), (3, .int a2)]) rfl ?_
  refine g_iload_n B d_X1_withoutRow_0 rfl rfl ?_
  refine g_iconst (v := 1) B d_X1_withoutRow_1 (by decide) ?_
  refine g_icmp_lt (tgt := 11) B d_X1_withoutRow_2 (by decide) h (fun h => ?_) (fun h => ?_)
  · refine g_lconst (v := 0) B d_X1_withoutRow_11 (by decide) ?_
    obtain ⟨rfl, rfl⟩ := q_ps h
    exact g_lret B En d_X1_withoutRow_12
  · refine g_iload_n B d_X1_withoutRow_5 rfl rfl ?_
    refine g_bipush (v := 15) B d_X1_withoutRow_6 (by decide) ?_
    refine g_icmp_le (tgt := 13) B d_X1_withoutRow_8 (by decide) h (fun h => ?_) (fun h => ?_)
    · refine g_aload_n B d_X1_withoutRow_13 rfl rfl ?_
      refine g_get (ci := 1) (k := 0) (v := .ref (Z.1 83)) B d_X1_withoutRow_14 q_in1 rfl (by decide) rfl (by decide) w_WaterOthers_CalmRows_9 rfl rfl ?_
      refine g_lconst (v := 0) B d_X1_withoutRow_17 (by decide) ?_
      obtain ⟨z18, g18, h⟩ := q_bind h
      refine g_callS (As := [.ref (Z.1 83), .long 0]) (rest := []) B d_X1_withoutRow_18 (t_J7_fill_d0a16 N 83 16 0 ⟨(by decide), (fun _ _ => rfl)⟩ σ g18) m_J7_fill_d0a16 w_WaterOthers_CalmRows_26 rfl rfl (Nat.le_of_ble_eq_true rfl) (by omega) (by decide) ?_
      refine g_aload_n B d_X1_withoutRow_21 rfl rfl ?_
      refine g_get (ci := 1) (k := 0) (v := .ref (Z.1 83)) B d_X1_withoutRow_22 q_in1 rfl (by decide) rfl (by decide) w_WaterOthers_CalmRows_9 rfl rfl ?_
      refine g_iconst (v := 0) B d_X1_withoutRow_25 (by decide) ?_
      refine g_lconst (v := 1) B d_X1_withoutRow_26 (by decide) ?_
      refine g_last B d_X1_withoutRow_27 (by decide) (fun _ _ => rfl) (by decide) ?_
      refine g_iconst (v := 0) B d_X1_withoutRow_28 (by decide) ?_
      refine g_istore B d_X1_withoutRow_29 (by decide) ?_
      exact g_cut rfl (t_X1_withoutRow_31 B En N a0 a1 a2 N 0 (q_wl z18 83 (0 : Int32).toNatClampNeg 1) h)
    · refine g_lconst (v := 0) B d_X1_withoutRow_11 (by decide) ?_
      obtain ⟨rfl, rfl⟩ := q_ps h
      exact g_lret B En d_X1_withoutRow_12

theorem w_WaterOthers_CalmRows_15 : Cond.methodLink "WaterOthers$CalmRows" 15 y_X1_tenTo ∈ q_tbl := q_mem 623 (by decide +kernel) (by decide +kernel)
theorem w_WaterOthers_CalmRows_19 : Cond.methodLink "WaterOthers$CalmRows" 19 y_X1_withoutRow ∈ q_tbl := q_mem 627 (by decide +kernel) (by decide +kernel)
def f_X1_withRow (N : Nat) (a0 : Int32) (a1 : Int32) (a2 : Int32) (σ : q_S) : Option (Int64 × q_S) :=
  (f_X1_tenTo N a0).bind fun z1 =>
  (f_X1_withoutRow N a0 a1 a2 σ).bind fun z8 =>
  some ((z1 - z8.1), z8.2)
set_option maxRecDepth 20000 in
theorem t_X1_withRow {Z : q_Z} {l : Launch} (N : Nat) (a0 : Int32) (a1 : Int32) (a2 : Int32)  (σ : q_S) {r : Int64} {σ' : q_S} (h : f_X1_withRow N a0 a1 a2 σ = some (r, σ')) : q_M Z l y_X1_withRow prog_3_method_3_code 4 (some .long) 3 [.ref (Z.1 82), .int a0, .int a1, .int a2] σ (some (.long r)) σ' := by
  refine q_met (by decide +kernel) (Nat.le_of_ble_eq_true rfl) (fun Γ hΓ B En => ?_)
  unfold f_X1_withRow at h
  refine g_cut (lv' := [(0, .ref (Z.1 82)), (1, .int a0), (2, .int a1), (3, .int a2)]) rfl ?_
  refine g_iload_n B d_X1_withRow_0 rfl rfl ?_
  obtain ⟨z1, g1, h⟩ := q_bind h
  refine g_callS (As := [.int a0]) (rest := []) B d_X1_withRow_1 (t_X1_tenTo N a0 σ g1) m_X1_tenTo w_WaterOthers_CalmRows_15 rfl rfl (Nat.le_of_ble_eq_true rfl) (by omega) (by decide) ?_
  refine g_aload_n B d_X1_withRow_4 rfl rfl ?_
  refine g_iload_n B d_X1_withRow_5 rfl rfl ?_
  refine g_iload_n B d_X1_withRow_6 rfl rfl ?_
  refine g_iload_n B d_X1_withRow_7 rfl rfl ?_
  obtain ⟨z8, g8, h⟩ := q_bind h
  refine g_callV (p0 := 82) (ci := 1) (As := [.int a0, .int a1, .int a2]) (rest := [.long z1]) B d_X1_withRow_8 (t_X1_withoutRow N a0 a1 a2 σ g8) m_X1_withoutRow w_WaterOthers_CalmRows_19 (by decide) rfl rfl rfl rfl (Nat.le_of_ble_eq_true rfl) (by omega) (by decide) ?_
  refine g_lsub B d_X1_withRow_11 ?_
  obtain ⟨rfl, rfl⟩ := q_ps h
  exact g_lret B En d_X1_withRow_12

theorem w_WaterOthers_CalmRows_23 : Cond.methodLink "WaterOthers$CalmRows" 23 y_X1_withRow ∈ q_tbl := q_mem 642 (by decide +kernel) (by decide +kernel)
def f_X1_longestRows_5 (N : Nat)  (x1 : Int32) (x2 : Int32)  : Nat → Int64 → Int32 → q_S → Option (Int64 × q_S)
  | 0, _, _, _ => none
  | n + 1, x3, x5, σ =>
    if x1 < x5 then (some (x3, σ))
    else ((f_X1_withRow N x1 x2 x5 σ).bind fun z17 =>
      f_X1_longestRows_5 N x1 x2 n (x3 + z17.1) (x5 + 1) z17.2)
def f_X1_longestRows (N : Nat) (a0 : Int32) (a1 : Int32) (σ : q_S) : Option (Int64 × q_S) :=
  f_X1_longestRows_5 N a0 a1 N 0 1 σ
set_option maxRecDepth 20000 in
theorem t_X1_longestRows_5 {Z : q_Z} {Γ : q_C} {r : Int64} {σ' : q_S} (B : q_B Z Γ prog_3_method_4_code "WaterOthers$CalmRows" 6 4) (En : q_E Z Γ (some .long) (some (.long r)) σ') (N : Nat)  (x1 : Int32) (x2 : Int32)   : ∀ (n : Nat) (x3 : Int64) (x5 : Int32) (σ : q_S), f_X1_longestRows_5 N x1 x2 n x3 x5 σ = some (r, σ') → q_G Z Γ 6 σ 5 [(0, .ref (Z.1 82)), (1, .int x1), (2, .int x2), (3, .long x3), (5, .int x5)] [] := by
  intro n
  induction n with
  | zero =>
    intro x3 x5 σ h
    cases h
  | succ n ih =>
    intro x3 x5 σ h
    unfold f_X1_longestRows_5 at h
    refine g_iload B d_X1_longestRows_5 rfl ?_
    refine g_iload_n B d_X1_longestRows_7 rfl rfl ?_
    refine g_icmp_gt (tgt := 28) B d_X1_longestRows_8 (by decide) h (fun h => ?_) (fun h => ?_)
    · refine g_lload_n B d_X1_longestRows_28 rfl rfl ?_
      obtain ⟨rfl, rfl⟩ := q_ps h
      exact g_lret B En d_X1_longestRows_29
    · refine g_lload_n B d_X1_longestRows_11 rfl rfl ?_
      refine g_aload_n B d_X1_longestRows_12 rfl rfl ?_
      refine g_iload_n B d_X1_longestRows_13 rfl rfl ?_
      refine g_iload_n B d_X1_longestRows_14 rfl rfl ?_
      refine g_iload B d_X1_longestRows_15 rfl ?_
      obtain ⟨z17, g17, h⟩ := q_bind h
      refine g_callV (p0 := 82) (ci := 1) (As := [.int x1, .int x2, .int x5]) (rest := [.long x3]) B d_X1_longestRows_17 (t_X1_withRow N x1 x2 x5 σ g17) m_X1_withRow w_WaterOthers_CalmRows_23 (by decide) rfl rfl rfl rfl (Nat.le_of_ble_eq_true rfl) (by omega) (by decide) ?_
      refine g_ladd B d_X1_longestRows_20 ?_
      refine g_lstore_n B d_X1_longestRows_21 rfl (by decide) ?_
      refine g_iinc (v := (x5 + 1)) B d_X1_longestRows_22 rfl rfl (by decide) ?_
      refine g_goto (tgt := 5) B d_X1_longestRows_25 (by decide) ?_
      exact g_cut rfl (ih (x3 + z17.1) (x5 + 1) z17.2 h)
set_option maxRecDepth 20000 in
theorem t_X1_longestRows {Z : q_Z} {l : Launch} (N : Nat) (a0 : Int32) (a1 : Int32)  (σ : q_S) {r : Int64} {σ' : q_S} (h : f_X1_longestRows N a0 a1 σ = some (r, σ')) : q_M Z l y_X1_longestRows prog_3_method_4_code 6 (some .long) 4 [.ref (Z.1 82), .int a0, .int a1] σ (some (.long r)) σ' := by
  refine q_met (by decide +kernel) (Nat.le_of_ble_eq_true rfl) (fun Γ hΓ B En => ?_)
  unfold f_X1_longestRows at h
  refine g_cut (lv' := [(0, .ref (Z.1 82)), (1, .int a0), (2, .int a1)]) rfl ?_
  refine g_lconst (v := 0) B d_X1_longestRows_0 (by decide) ?_
  refine g_lstore_n B d_X1_longestRows_1 rfl (by decide) ?_
  refine g_iconst (v := 1) B d_X1_longestRows_2 (by decide) ?_
  refine g_istore B d_X1_longestRows_3 (by decide) ?_
  exact g_cut rfl (t_X1_longestRows_5 B En N a0 a1 N 0 1 σ h)

theorem w_WaterOthers_Ring_60 : Cond.methodLink "WaterOthers$Ring" 60 y_J9_floorMod_7cf53 ∈ q_tbl := q_mem 575 (by decide +kernel) (by decide +kernel)
def f_X4_cellAt (a0 : Int32) (a1 : Int32) : Option Int32 :=
  (f_J9_floorMod_7cf53 ((a0 / 70) + (((q_rem (a0 / 10) 7) - 3) * (a1 - (q_rem a0 10)))) 20).bind fun z31 =>
  some z31
set_option maxRecDepth 20000 in
theorem t_X4_cellAt {Z : q_Z} {l : Launch} (a0 : Int32) (a1 : Int32)  (σ : q_S) {r : Int32} (h : f_X4_cellAt a0 a1 = some r) : q_M Z l y_X4_cellAt prog_6_method_8_code 5 (some .int) 2 [.int a0, .int a1] σ (some (.int r)) σ := by
  refine q_met (by decide +kernel) (Nat.le_of_ble_eq_true rfl) (fun Γ hΓ B En => ?_)
  unfold f_X4_cellAt at h
  refine g_cut (lv' := [(0, .int a0), (1, .int a1)]) rfl ?_
  refine g_iload_n B d_X4_cellAt_0 rfl rfl ?_
  refine g_bipush (v := 70) B d_X4_cellAt_1 (by decide) ?_
  refine g_idiv B d_X4_cellAt_3 (by decide) ?_
  refine g_istore_n B d_X4_cellAt_4 rfl (by decide) ?_
  refine g_iload_n B d_X4_cellAt_5 rfl rfl ?_
  refine g_bipush (v := 10) B d_X4_cellAt_6 (by decide) ?_
  refine g_idiv B d_X4_cellAt_8 (by decide) ?_
  refine g_bipush (v := 7) B d_X4_cellAt_9 (by decide) ?_
  refine g_irem B d_X4_cellAt_11 (by decide) ?_
  refine g_iconst (v := 3) B d_X4_cellAt_12 (by decide) ?_
  refine g_isub B d_X4_cellAt_13 ?_
  refine g_istore_n B d_X4_cellAt_14 rfl (by decide) ?_
  refine g_iload_n B d_X4_cellAt_15 rfl rfl ?_
  refine g_bipush (v := 10) B d_X4_cellAt_16 (by decide) ?_
  refine g_irem B d_X4_cellAt_18 (by decide) ?_
  refine g_istore B d_X4_cellAt_19 (by decide) ?_
  refine g_iload_n B d_X4_cellAt_21 rfl rfl ?_
  refine g_iload_n B d_X4_cellAt_22 rfl rfl ?_
  refine g_iload_n B d_X4_cellAt_23 rfl rfl ?_
  refine g_iload B d_X4_cellAt_24 rfl ?_
  refine g_isub B d_X4_cellAt_26 ?_
  refine g_imul B d_X4_cellAt_27 ?_
  refine g_iadd B d_X4_cellAt_28 ?_
  refine g_bipush (v := 20) B d_X4_cellAt_29 (by decide) ?_
  obtain ⟨z31, g31, h⟩ := q_bind h
  refine g_callS (As := [.int ((a0 / 70) + (((q_rem (a0 / 10) 7) - 3) * (a1 - (q_rem a0 10)))), .int 20]) (rest := []) B d_X4_cellAt_31 (t_J9_floorMod_7cf53 ((a0 / 70) + (((q_rem (a0 / 10) 7) - 3) * (a1 - (q_rem a0 10)))) 20 σ g31) m_J9_floorMod_7cf53 w_WaterOthers_Ring_60 rfl rfl (Nat.le_of_ble_eq_true rfl) (by omega) (by decide) ?_
  obtain rfl := q_po h
  exact g_iret B En d_X4_cellAt_34

theorem w_WaterOthers_Ring_40 : Cond.methodLink "WaterOthers$Ring" 40 y_X4_cellAt ∈ q_tbl := q_mem 572 (by decide +kernel) (by decide +kernel)
theorem w_WaterOthers_Ring_49 : Cond.fieldLinkNest "WaterOthers$Ring" 49 "WaterOthers$Sights" "count" "I" "WaterOthers" ∈ q_nst := q_memN 60 (by decide +kernel) (by decide +kernel)
theorem w_WaterOthers_Ring_54 : Cond.fieldLinkNest "WaterOthers$Ring" 54 "WaterOthers$Sights" "beats" "[I" "WaterOthers" ∈ q_nst := q_memN 56 (by decide +kernel) (by decide +kernel)
theorem w_WaterOthers_Ring_57 : Cond.fieldLinkNest "WaterOthers$Ring" 57 "WaterOthers$Sights" "cells" "[I" "WaterOthers" ∈ q_nst := q_memN 58 (by decide +kernel) (by decide +kernel)
def f_X4_isFit_2 (N : Nat)  (x0 : Int32) (p1 : Nat) (σ : q_S) : Nat → Int32 → Option Int32
  | 0, _ => none
  | n + 1, x2 =>
    if (σ.1 p1 2) ≤ x2 then (some 1)
    else (if (8 : Int32) ≤ x2 then (some 1)
      else (if ¬ ((x2 : Int32) < 0 ∨ 8 ≤ (x2 : Int32).toNatClampNeg) then (f_X4_cellAt x0 (σ.1 (p1 + 1) (x2 : Int32).toNatClampNeg)).bind fun z23 =>
        if z23 = (σ.1 (p1 + 2) (x2 : Int32).toNatClampNeg) then (f_X4_isFit_2 N x0 p1 σ n (x2 + 1))
        else (some 0) else none))
def f_X4_isFit (N : Nat) (a0 : Int32) (a1 : Nat) (σ : q_S) : Option Int32 :=
  f_X4_isFit_2 N a0 a1 σ N 0
set_option maxRecDepth 20000 in
theorem t_X4_isFit_2 {Z : q_Z} {Γ : q_C} {σ : q_S} {r : Int32} (B : q_B Z Γ prog_6_method_7_code "WaterOthers$Ring" 3 3) (En : q_E Z Γ (some .boolean) (some (.int r)) σ) (N : Nat)  (x0 : Int32) (p1 : Nat)  (hp1 : q_Sg p1) : ∀ (n : Nat) (x2 : Int32), f_X4_isFit_2 N x0 p1 σ n x2 = some r → q_G Z Γ 3 σ 2 [(0, .int x0), (1, .ref (Z.1 p1)), (2, .int x2)] [] := by
  intro n
  induction n with
  | zero =>
    intro x2 h
    cases h
  | succ n ih =>
    intro x2 h
    unfold f_X4_isFit_2 at h
    refine g_iload_n B d_X4_isFit_2 rfl rfl ?_
    refine g_aload_n B d_X4_isFit_3 rfl rfl ?_
    refine g_getN (ci := 5) (k := 2) B d_X4_isFit_4 q_in5 rfl (q_Slt hp1) ((q_cS hp1) _ _) (by decide) w_WaterOthers_Ring_49 rfl rfl ?_
    refine g_icmp_ge (tgt := 43) B d_X4_isFit_7 (by decide) h (fun h => ?_) (fun h => ?_)
    · refine g_iconst (v := 1) B d_X4_isFit_43 (by decide) ?_
      obtain rfl := q_po h
      exact g_zret B En d_X4_isFit_44 (by decide)
    · refine g_iload_n B d_X4_isFit_10 rfl rfl ?_
      refine g_bipush (v := 8) B d_X4_isFit_11 (by decide) ?_
      refine g_icmp_ge (tgt := 43) B d_X4_isFit_13 (by decide) h (fun h => ?_) (fun h => ?_)
      · refine g_iconst (v := 1) B d_X4_isFit_43 (by decide) ?_
        obtain rfl := q_po h
        exact g_zret B En d_X4_isFit_44 (by decide)
      · refine g_iload_n B d_X4_isFit_16 rfl rfl ?_
        refine g_aload_n B d_X4_isFit_17 rfl rfl ?_
        refine g_getN (ci := 5) (k := 0) (v := .ref (Z.1 (p1 + 1))) B d_X4_isFit_18 q_in5 rfl (q_Slt hp1) ((q_cS hp1) _ _) (by decide) w_WaterOthers_Ring_54 rfl rfl ?_
        refine g_iload_n B d_X4_isFit_21 rfl rfl ?_
        obtain ⟨h22, h⟩ := q_chk h
        refine g_iald B d_X4_isFit_22 (q_S1lt hp1) (q_cS1 hp1) h22 ?_
        obtain ⟨z23, g23, h⟩ := q_bind h
        refine g_callS (As := [.int x0, .int (σ.1 (p1 + 1) (x2 : Int32).toNatClampNeg)]) (rest := []) B d_X4_isFit_23 (t_X4_cellAt x0 (σ.1 (p1 + 1) (x2 : Int32).toNatClampNeg) σ g23) m_X4_cellAt w_WaterOthers_Ring_40 rfl rfl (Nat.le_of_ble_eq_true rfl) (by omega) (by decide) ?_
        refine g_aload_n B d_X4_isFit_26 rfl rfl ?_
        refine g_getN (ci := 5) (k := 1) (v := .ref (Z.1 (p1 + 2))) B d_X4_isFit_27 q_in5 rfl (q_Slt hp1) ((q_cS hp1) _ _) (by decide) w_WaterOthers_Ring_57 rfl rfl ?_
        refine g_iload_n B d_X4_isFit_30 rfl rfl ?_
        refine g_iald B d_X4_isFit_31 (q_S2lt hp1) (q_cS2 hp1) h22 ?_
        refine g_icmp_eq (tgt := 37) B d_X4_isFit_32 (by decide) h (fun h => ?_) (fun h => ?_)
        · refine g_iinc (v := (x2 + 1)) B d_X4_isFit_37 rfl rfl (by decide) ?_
          refine g_goto (tgt := 2) B d_X4_isFit_40 (by decide) ?_
          exact g_cut rfl (ih (x2 + 1) h)
        · refine g_iconst (v := 0) B d_X4_isFit_35 (by decide) ?_
          obtain rfl := q_po h
          exact g_zret B En d_X4_isFit_36 (by decide)
set_option maxRecDepth 20000 in
theorem t_X4_isFit {Z : q_Z} {l : Launch} (N : Nat) (a0 : Int32) (a1 : Nat) (h1 : q_Sg a1) (σ : q_S) {r : Int32} (h : f_X4_isFit N a0 a1 σ = some r) : q_M Z l y_X4_isFit prog_6_method_7_code 3 (some .boolean) 3 [.int a0, .ref (Z.1 a1)] σ (some (.int r)) σ := by
  refine q_met (by decide +kernel) (Nat.le_of_ble_eq_true rfl) (fun Γ hΓ B En => ?_)
  unfold f_X4_isFit at h
  refine g_cut (lv' := [(0, .int a0), (1, .ref (Z.1 a1))]) rfl ?_
  refine g_iconst (v := 0) B d_X4_isFit_0 (by decide) ?_
  refine g_istore_n B d_X4_isFit_1 rfl (by decide) ?_
  exact g_cut rfl (t_X4_isFit_2 B En N a0 a1 h1 N 0 h)

theorem w_WaterOthers_Ring_15 : Cond.methodLink "WaterOthers$Ring" 15 y_X4_isFit ∈ q_tbl := q_mem 569 (by decide +kernel) (by decide +kernel)
def f_X4_countFits_4 (N : Nat)  (p1 : Nat) (σ : q_S) : Nat → Int32 → Int32 → Option Int32
  | 0, _, _ => none
  | n + 1, x2, x3 =>
    if (1400 : Int32) ≤ x3 then (some x2)
    else ((f_X4_isFit N x3 p1 σ).bind fun z14 =>
      if z14 = 0 then (f_X4_countFits_4 N p1 σ n (x2 + 0) (x3 + 1))
      else (f_X4_countFits_4 N p1 σ n (x2 + 1) (x3 + 1)))
def f_X4_countFits (N : Nat) (a0 : Nat) (σ : q_S) : Option Int32 :=
  f_X4_countFits_4 N a0 σ N 0 0
set_option maxRecDepth 20000 in
theorem t_X4_countFits_4 {Z : q_Z} {Γ : q_C} {σ : q_S} {r : Int32} (B : q_B Z Γ prog_6_method_2_code "WaterOthers$Ring" 4 4) (En : q_E Z Γ (some .int) (some (.int r)) σ) (N : Nat)  (p1 : Nat)  (hp1 : q_Sg p1) : ∀ (n : Nat) (x2 : Int32) (x3 : Int32), f_X4_countFits_4 N p1 σ n x2 x3 = some r → q_G Z Γ 4 σ 4 [(1, .ref (Z.1 p1)), (2, .int x2), (3, .int x3)] [] := by
  intro n
  induction n with
  | zero =>
    intro x2 x3 h
    cases h
  | succ n ih =>
    intro x2 x3 h
    unfold f_X4_countFits_4 at h
    refine g_iload_n B d_X4_countFits_4 rfl rfl ?_
    refine g_sipush (v := 1400) B d_X4_countFits_5 (by decide) ?_
    refine g_icmp_ge (tgt := 33) B d_X4_countFits_8 (by decide) h (fun h => ?_) (fun h => ?_)
    · refine g_iload_n B d_X4_countFits_33 rfl rfl ?_
      obtain rfl := q_po h
      exact g_iret B En d_X4_countFits_34
    · refine g_iload_n B d_X4_countFits_11 rfl rfl ?_
      refine g_iload_n B d_X4_countFits_12 rfl rfl ?_
      refine g_aload_n B d_X4_countFits_13 rfl rfl ?_
      obtain ⟨z14, g14, h⟩ := q_bind h
      refine g_callS (As := [.int x3, .ref (Z.1 p1)]) (rest := [.int x2]) B d_X4_countFits_14 (t_X4_isFit N x3 p1 hp1 σ g14) m_X4_isFit w_WaterOthers_Ring_15 rfl rfl (Nat.le_of_ble_eq_true rfl) (by omega) (by decide) ?_
      refine g_if_eq (tgt := 24) B d_X4_countFits_17 (by decide) h (fun h => ?_) (fun h => ?_)
      · refine g_iconst (v := 0) B d_X4_countFits_24 (by decide) ?_
        refine g_iadd B d_X4_countFits_25 ?_
        refine g_istore_n B d_X4_countFits_26 rfl (by decide) ?_
        refine g_iinc (v := (x3 + 1)) B d_X4_countFits_27 rfl rfl (by decide) ?_
        refine g_goto (tgt := 4) B d_X4_countFits_30 (by decide) ?_
        exact g_cut rfl (ih (x2 + 0) (x3 + 1) h)
      · refine g_iconst (v := 1) B d_X4_countFits_20 (by decide) ?_
        refine g_goto (tgt := 25) B d_X4_countFits_21 (by decide) ?_
        refine g_iadd B d_X4_countFits_25 ?_
        refine g_istore_n B d_X4_countFits_26 rfl (by decide) ?_
        refine g_iinc (v := (x3 + 1)) B d_X4_countFits_27 rfl rfl (by decide) ?_
        refine g_goto (tgt := 4) B d_X4_countFits_30 (by decide) ?_
        exact g_cut rfl (ih (x2 + 1) (x3 + 1) h)
set_option maxRecDepth 20000 in
theorem t_X4_countFits {Z : q_Z} {l : Launch} (N : Nat) (a0 : Nat) (h0 : q_Sg a0) (σ : q_S) {r : Int32} (h : f_X4_countFits N a0 σ = some r) : q_M Z l y_X4_countFits prog_6_method_2_code 4 (some .int) 4 [.ref (Z.1 80), .ref (Z.1 a0)] σ (some (.int r)) σ := by
  refine q_met (by decide +kernel) (Nat.le_of_ble_eq_true rfl) (fun Γ hΓ B En => ?_)
  unfold f_X4_countFits at h
  refine g_cut (lv' := [(0, .ref (Z.1 80)), (1, .ref (Z.1 a0))]) rfl ?_
  refine g_iconst (v := 0) B d_X4_countFits_0 (by decide) ?_
  refine g_istore_n B d_X4_countFits_1 rfl (by decide) ?_
  refine g_iconst (v := 0) B d_X4_countFits_2 (by decide) ?_
  refine g_istore_n B d_X4_countFits_3 rfl (by decide) ?_
  exact g_cut rfl (t_X4_countFits_4 B En N a0 h0 N 0 0 h)

def f_X4_fitAt_5 (N : Nat)  (p1 : Nat) (x2 : Int32) (σ : q_S) : Nat → Int32 → Int32 → Option Int32
  | 0, _, _ => none
  | n + 1, x3, x4 =>
    if (1400 : Int32) ≤ x4 then (some (-6))
    else (if x2 < 0 then (some (-6))
      else ((f_X4_isFit N x4 p1 σ).bind fun z20 =>
        if z20 = 0 then (f_X4_fitAt_5 N p1 x2 σ n x3 (x4 + 1))
        else (if x3 = x2 then (some ((1000 * (x4 / 70)) + (q_rem x4 70)))
          else (f_X4_fitAt_5 N p1 x2 σ n (x3 + 1) (x4 + 1)))))
def f_X4_fitAt (N : Nat) (a0 : Nat) (a1 : Int32) (σ : q_S) : Option Int32 :=
  f_X4_fitAt_5 N a0 a1 σ N 0 0
set_option maxRecDepth 20000 in
theorem t_X4_fitAt_5 {Z : q_Z} {Γ : q_C} {σ : q_S} {r : Int32} (B : q_B Z Γ prog_6_method_3_code "WaterOthers$Ring" 5 4) (En : q_E Z Γ (some .int) (some (.int r)) σ) (N : Nat)  (p1 : Nat) (x2 : Int32)  (hp1 : q_Sg p1) : ∀ (n : Nat) (x3 : Int32) (x4 : Int32), f_X4_fitAt_5 N p1 x2 σ n x3 x4 = some r → q_G Z Γ 5 σ 5 [(1, .ref (Z.1 p1)), (2, .int x2), (3, .int x3), (4, .int x4)] [] := by
  intro n
  induction n with
  | zero =>
    intro x3 x4 h
    cases h
  | succ n ih =>
    intro x3 x4 h
    unfold f_X4_fitAt_5 at h
    refine g_iload B d_X4_fitAt_5 rfl ?_
    refine g_sipush (v := 1400) B d_X4_fitAt_7 (by decide) ?_
    refine g_icmp_ge (tgt := 59) B d_X4_fitAt_10 (by decide) h (fun h => ?_) (fun h => ?_)
    · refine g_bipush (v := (-6)) B d_X4_fitAt_59 (by decide) ?_
      obtain rfl := q_po h
      exact g_iret B En d_X4_fitAt_61
    · refine g_iload_n B d_X4_fitAt_13 rfl rfl ?_
      refine g_if_lt (tgt := 59) B d_X4_fitAt_14 (by decide) h (fun h => ?_) (fun h => ?_)
      · refine g_bipush (v := (-6)) B d_X4_fitAt_59 (by decide) ?_
        obtain rfl := q_po h
        exact g_iret B En d_X4_fitAt_61
      · refine g_iload B d_X4_fitAt_17 rfl ?_
        refine g_aload_n B d_X4_fitAt_19 rfl rfl ?_
        obtain ⟨z20, g20, h⟩ := q_bind h
        refine g_callS (As := [.int x4, .ref (Z.1 p1)]) (rest := []) B d_X4_fitAt_20 (t_X4_isFit N x4 p1 hp1 σ g20) m_X4_isFit w_WaterOthers_Ring_15 rfl rfl (Nat.le_of_ble_eq_true rfl) (by omega) (by decide) ?_
        refine g_if_ne (tgt := 29) B d_X4_fitAt_23 (by decide) h (fun h => ?_) (fun h => ?_)
        · refine g_iload_n B d_X4_fitAt_29 rfl rfl ?_
          refine g_iload_n B d_X4_fitAt_30 rfl rfl ?_
          refine g_icmp_ne (tgt := 50) B d_X4_fitAt_31 (by decide) h (fun h => ?_) (fun h => ?_)
          · refine g_iinc (v := (x3 + 1)) B d_X4_fitAt_50 rfl rfl (by decide) ?_
            refine g_iinc (v := (x4 + 1)) B d_X4_fitAt_53 rfl rfl (by decide) ?_
            refine g_goto (tgt := 5) B d_X4_fitAt_56 (by decide) ?_
            exact g_cut rfl (ih (x3 + 1) (x4 + 1) h)
          · refine g_sipush (v := 1000) B d_X4_fitAt_34 (by decide) ?_
            refine g_iload B d_X4_fitAt_37 rfl ?_
            refine g_bipush (v := 70) B d_X4_fitAt_39 (by decide) ?_
            refine g_idiv B d_X4_fitAt_41 (by decide) ?_
            refine g_imul B d_X4_fitAt_42 ?_
            refine g_iload B d_X4_fitAt_43 rfl ?_
            refine g_bipush (v := 70) B d_X4_fitAt_45 (by decide) ?_
            refine g_irem B d_X4_fitAt_47 (by decide) ?_
            refine g_iadd B d_X4_fitAt_48 ?_
            obtain rfl := q_po h
            exact g_iret B En d_X4_fitAt_49
        · refine g_goto (tgt := 53) B d_X4_fitAt_26 (by decide) ?_
          refine g_iinc (v := (x4 + 1)) B d_X4_fitAt_53 rfl rfl (by decide) ?_
          refine g_goto (tgt := 5) B d_X4_fitAt_56 (by decide) ?_
          exact g_cut rfl (ih x3 (x4 + 1) h)
set_option maxRecDepth 20000 in
theorem t_X4_fitAt {Z : q_Z} {l : Launch} (N : Nat) (a0 : Nat) (a1 : Int32) (h0 : q_Sg a0) (σ : q_S) {r : Int32} (h : f_X4_fitAt N a0 a1 σ = some r) : q_M Z l y_X4_fitAt prog_6_method_3_code 5 (some .int) 4 [.ref (Z.1 80), .ref (Z.1 a0), .int a1] σ (some (.int r)) σ := by
  refine q_met (by decide +kernel) (Nat.le_of_ble_eq_true rfl) (fun Γ hΓ B En => ?_)
  unfold f_X4_fitAt at h
  refine g_cut (lv' := [(0, .ref (Z.1 80)), (1, .ref (Z.1 a0)), (2, .int a1)]) rfl ?_
  refine g_iconst (v := 0) B d_X4_fitAt_0 (by decide) ?_
  refine g_istore_n B d_X4_fitAt_1 rfl (by decide) ?_
  refine g_iconst (v := 0) B d_X4_fitAt_2 (by decide) ?_
  refine g_istore B d_X4_fitAt_3 (by decide) ?_
  exact g_cut rfl (t_X4_fitAt_5 B En N a0 a1 h0 N 0 0 h)

theorem w_WaterOthers_Ring_11 : Cond.fieldLink "WaterOthers$Ring" 11 "WaterOthers$Ring" "crowds" "[I" ∈ q_tbl := q_mem 231 (by decide +kernel) (by decide +kernel)
theorem w_WaterOthers_Ring_34 : Cond.methodLink "WaterOthers$Ring" 34 y_J7_fill_53178 ∈ q_tbl := q_mem 594 (by decide +kernel) (by decide +kernel)
def f_X4_fillCrowds_27 (N : Nat) (k10 : Int32 → q_S → Option q_S) (p1 : Nat) (x2 : Int32)  : Nat → Int32 → q_S → Option q_S
  | 0, _, _ => none
  | n + 1, x3, σ =>
    if (20 : Int32) ≤ x3 then (k10 (x2 + 1) σ)
    else ((f_X4_cellAt x2 x3).bind fun z43 =>
      if ¬ ((((x3 * 20) + z43) : Int32) < 0 ∨ 400 ≤ (((x3 * 20) + z43) : Int32).toNatClampNeg) then f_X4_fillCrowds_27 N k10 p1 x2 n (x3 + 1) (q_w σ 81 (((x3 * 20) + z43) : Int32).toNatClampNeg ((σ.1 81 (((x3 * 20) + z43) : Int32).toNatClampNeg) + 1)) else none)
def f_X4_fillCrowds_10 (N : Nat)  (p1 : Nat)  : Nat → Int32 → q_S → Option q_S
  | 0, _, _ => none
  | n + 1, x2, σ =>
    if (1400 : Int32) ≤ x2 then (some σ)
    else ((f_X4_isFit N x2 p1 σ).bind fun z19 =>
      if z19 = 0 then (f_X4_fillCrowds_10 N p1 n (x2 + 1) σ)
      else (f_X4_fillCrowds_27 N (fun x2 σ => f_X4_fillCrowds_10 N p1 n x2 σ) p1 x2 N 0 σ))
def f_X4_fillCrowds (N : Nat) (a0 : Nat) (σ : q_S) : Option q_S :=
  (f_J7_fill_53178 N 81 400 0 σ).bind fun z5 =>
  f_X4_fillCrowds_10 N a0 N 0 z5
set_option maxRecDepth 20000 in
theorem t_X4_fillCrowds_27 {Z : q_Z} {Γ : q_C} {σ' : q_S} (B : q_B Z Γ prog_6_method_5_code "WaterOthers$Ring" 4 4) (En : q_E Z Γ none none σ') (N : Nat) (k10 : Int32 → q_S → Option q_S) (p1 : Nat) (x2 : Int32) (K10 : ∀ (x2 : Int32) (σ : q_S), k10 x2 σ = some σ' → q_G Z Γ 4 σ 10 [(0, .ref (Z.1 80)), (1, .ref (Z.1 p1)), (2, .int x2)] []) (hp1 : q_Sg p1) : ∀ (n : Nat) (x3 : Int32) (σ : q_S), f_X4_fillCrowds_27 N k10 p1 x2 n x3 σ = some σ' → q_G Z Γ 4 σ 27 [(0, .ref (Z.1 80)), (1, .ref (Z.1 p1)), (2, .int x2), (3, .int x3)] [] := by
  intro n
  induction n with
  | zero =>
    intro x3 σ h
    cases h
  | succ n ih =>
    intro x3 σ h
    unfold f_X4_fillCrowds_27 at h
    refine g_iload_n B d_X4_fillCrowds_27 rfl rfl ?_
    refine g_bipush (v := 20) B d_X4_fillCrowds_28 (by decide) ?_
    refine g_icmp_ge (tgt := 58) B d_X4_fillCrowds_30 (by decide) h (fun h => ?_) (fun h => ?_)
    · refine g_iinc (v := (x2 + 1)) B d_X4_fillCrowds_58 rfl rfl (by decide) ?_
      refine g_goto (tgt := 10) B d_X4_fillCrowds_61 (by decide) ?_
      exact g_cut rfl (K10 (x2 + 1) σ h)
    · refine g_aload_n B d_X4_fillCrowds_33 rfl rfl ?_
      refine g_get (ci := 4) (k := 0) (v := .ref (Z.1 81)) B d_X4_fillCrowds_34 q_in4 rfl (by decide) rfl (by decide) w_WaterOthers_Ring_11 rfl rfl ?_
      refine g_iload_n B d_X4_fillCrowds_37 rfl rfl ?_
      refine g_bipush (v := 20) B d_X4_fillCrowds_38 (by decide) ?_
      refine g_imul B d_X4_fillCrowds_40 ?_
      refine g_iload_n B d_X4_fillCrowds_41 rfl rfl ?_
      refine g_iload_n B d_X4_fillCrowds_42 rfl rfl ?_
      obtain ⟨z43, g43, h⟩ := q_bind h
      refine g_callS (As := [.int x2, .int x3]) (rest := [.int (x3 * 20), .ref (Z.1 81)]) B d_X4_fillCrowds_43 (t_X4_cellAt x2 x3 σ g43) m_X4_cellAt w_WaterOthers_Ring_40 rfl rfl (Nat.le_of_ble_eq_true rfl) (by omega) (by decide) ?_
      refine g_iadd B d_X4_fillCrowds_46 ?_
      refine g_dup2 B d_X4_fillCrowds_47 rfl rfl ?_
      obtain ⟨h48, h⟩ := q_chk h
      refine g_iald B d_X4_fillCrowds_48 (by decide) (fun _ _ => rfl) h48 ?_
      refine g_iconst (v := 1) B d_X4_fillCrowds_49 (by decide) ?_
      refine g_iadd B d_X4_fillCrowds_50 ?_
      refine g_iast B d_X4_fillCrowds_51 (by decide) (fun _ _ => rfl) h48 ?_
      refine g_iinc (v := (x3 + 1)) B d_X4_fillCrowds_52 rfl rfl (by decide) ?_
      refine g_goto (tgt := 27) B d_X4_fillCrowds_55 (by decide) ?_
      exact g_cut rfl (ih (x3 + 1) (q_w σ 81 (((x3 * 20) + z43) : Int32).toNatClampNeg ((σ.1 81 (((x3 * 20) + z43) : Int32).toNatClampNeg) + 1)) h)
set_option maxRecDepth 20000 in
theorem t_X4_fillCrowds_10 {Z : q_Z} {Γ : q_C} {σ' : q_S} (B : q_B Z Γ prog_6_method_5_code "WaterOthers$Ring" 4 4) (En : q_E Z Γ none none σ') (N : Nat)  (p1 : Nat)  (hp1 : q_Sg p1) : ∀ (n : Nat) (x2 : Int32) (σ : q_S), f_X4_fillCrowds_10 N p1 n x2 σ = some σ' → q_G Z Γ 4 σ 10 [(0, .ref (Z.1 80)), (1, .ref (Z.1 p1)), (2, .int x2)] [] := by
  intro n
  induction n with
  | zero =>
    intro x2 σ h
    cases h
  | succ n ih =>
    intro x2 σ h
    unfold f_X4_fillCrowds_10 at h
    refine g_iload_n B d_X4_fillCrowds_10 rfl rfl ?_
    refine g_sipush (v := 1400) B d_X4_fillCrowds_11 (by decide) ?_
    refine g_icmp_ge (tgt := 64) B d_X4_fillCrowds_14 (by decide) h (fun h => ?_) (fun h => ?_)
    · obtain rfl := q_po h
      exact g_vret B En d_X4_fillCrowds_64
    · refine g_iload_n B d_X4_fillCrowds_17 rfl rfl ?_
      refine g_aload_n B d_X4_fillCrowds_18 rfl rfl ?_
      obtain ⟨z19, g19, h⟩ := q_bind h
      refine g_callS (As := [.int x2, .ref (Z.1 p1)]) (rest := []) B d_X4_fillCrowds_19 (t_X4_isFit N x2 p1 hp1 σ g19) m_X4_isFit w_WaterOthers_Ring_15 rfl rfl (Nat.le_of_ble_eq_true rfl) (by omega) (by decide) ?_
      refine g_if_eq (tgt := 58) B d_X4_fillCrowds_22 (by decide) h (fun h => ?_) (fun h => ?_)
      · refine g_iinc (v := (x2 + 1)) B d_X4_fillCrowds_58 rfl rfl (by decide) ?_
        refine g_goto (tgt := 10) B d_X4_fillCrowds_61 (by decide) ?_
        exact g_cut rfl (ih (x2 + 1) σ h)
      · refine g_iconst (v := 0) B d_X4_fillCrowds_25 (by decide) ?_
        refine g_istore_n B d_X4_fillCrowds_26 rfl (by decide) ?_
        exact g_cut rfl (t_X4_fillCrowds_27 B En N (fun x2 σ => f_X4_fillCrowds_10 N p1 n x2 σ) p1 x2 (ih) hp1 N 0 σ h)
set_option maxRecDepth 20000 in
theorem t_X4_fillCrowds {Z : q_Z} {l : Launch} (N : Nat) (a0 : Nat) (h0 : q_Sg a0) (σ : q_S) {σ' : q_S} (h : f_X4_fillCrowds N a0 σ = some σ') : q_M Z l y_X4_fillCrowds prog_6_method_5_code 4 none 4 [.ref (Z.1 80), .ref (Z.1 a0)] σ none σ' := by
  refine q_met (by decide +kernel) (Nat.le_of_ble_eq_true rfl) (fun Γ hΓ B En => ?_)
  unfold f_X4_fillCrowds at h
  refine g_cut (lv' := [(0, .ref (Z.1 80)), (1, .ref (Z.1 a0))]) rfl ?_
  refine g_aload_n B d_X4_fillCrowds_0 rfl rfl ?_
  refine g_get (ci := 4) (k := 0) (v := .ref (Z.1 81)) B d_X4_fillCrowds_1 q_in4 rfl (by decide) rfl (by decide) w_WaterOthers_Ring_11 rfl rfl ?_
  refine g_iconst (v := 0) B d_X4_fillCrowds_4 (by decide) ?_
  obtain ⟨z5, g5, h⟩ := q_bind h
  refine g_callS (As := [.ref (Z.1 81), .int 0]) (rest := []) B d_X4_fillCrowds_5 (t_J7_fill_53178 N 81 400 0 ⟨(by decide), (fun _ _ => rfl)⟩ σ g5) m_J7_fill_53178 w_WaterOthers_Ring_34 rfl rfl (Nat.le_of_ble_eq_true rfl) (by omega) (by decide) ?_
  refine g_iconst (v := 0) B d_X4_fillCrowds_8 (by decide) ?_
  refine g_istore_n B d_X4_fillCrowds_9 rfl (by decide) ?_
  exact g_cut rfl (t_X4_fillCrowds_10 B En N a0 h0 N 0 z5 h)

theorem w_WaterOthers_Ring_44 : Cond.methodLink "WaterOthers$Ring" 44 y_J9_max_7cf53 ∈ q_tbl := q_mem 599 (by decide +kernel) (by decide +kernel)
def f_X4_greatestCrowd_4 (N : Nat)  (x1 : Int32) (σ : q_S) : Nat → Int32 → Int32 → Option Int32
  | 0, _, _ => none
  | n + 1, x2, x3 =>
    if (20 : Int32) ≤ x3 then (some x2)
    else (if ¬ ((((x1 * 20) + x3) : Int32) < 0 ∨ 400 ≤ (((x1 * 20) + x3) : Int32).toNatClampNeg) then f_X4_greatestCrowd_4 N x1 σ n (f_J9_max_7cf53 x2 (σ.1 81 (((x1 * 20) + x3) : Int32).toNatClampNeg)) (x3 + 1) else none)
def f_X4_greatestCrowd (N : Nat) (a0 : Int32) (σ : q_S) : Option Int32 :=
  f_X4_greatestCrowd_4 N a0 σ N 0 0
set_option maxRecDepth 20000 in
theorem t_X4_greatestCrowd_4 {Z : q_Z} {Γ : q_C} {σ : q_S} {r : Int32} (B : q_B Z Γ prog_6_method_6_code "WaterOthers$Ring" 4 2) (En : q_E Z Γ (some .int) (some (.int r)) σ) (N : Nat)  (x1 : Int32)   : ∀ (n : Nat) (x2 : Int32) (x3 : Int32), f_X4_greatestCrowd_4 N x1 σ n x2 x3 = some r → q_G Z Γ 4 σ 4 [(0, .ref (Z.1 80)), (1, .int x1), (2, .int x2), (3, .int x3)] [] := by
  intro n
  induction n with
  | zero =>
    intro x2 x3 h
    cases h
  | succ n ih =>
    intro x2 x3 h
    unfold f_X4_greatestCrowd_4 at h
    refine g_iload_n B d_X4_greatestCrowd_4 rfl rfl ?_
    refine g_bipush (v := 20) B d_X4_greatestCrowd_5 (by decide) ?_
    refine g_icmp_ge (tgt := 32) B d_X4_greatestCrowd_7 (by decide) h (fun h => ?_) (fun h => ?_)
    · refine g_iload_n B d_X4_greatestCrowd_32 rfl rfl ?_
      obtain rfl := q_po h
      exact g_iret B En d_X4_greatestCrowd_33
    · refine g_iload_n B d_X4_greatestCrowd_10 rfl rfl ?_
      refine g_aload_n B d_X4_greatestCrowd_11 rfl rfl ?_
      refine g_get (ci := 4) (k := 0) (v := .ref (Z.1 81)) B d_X4_greatestCrowd_12 q_in4 rfl (by decide) rfl (by decide) w_WaterOthers_Ring_11 rfl rfl ?_
      refine g_iload_n B d_X4_greatestCrowd_15 rfl rfl ?_
      refine g_bipush (v := 20) B d_X4_greatestCrowd_16 (by decide) ?_
      refine g_imul B d_X4_greatestCrowd_18 ?_
      refine g_iload_n B d_X4_greatestCrowd_19 rfl rfl ?_
      refine g_iadd B d_X4_greatestCrowd_20 ?_
      obtain ⟨h21, h⟩ := q_chk h
      refine g_iald B d_X4_greatestCrowd_21 (by decide) (fun _ _ => rfl) h21 ?_
      refine g_callS (As := [.int x2, .int (σ.1 81 (((x1 * 20) + x3) : Int32).toNatClampNeg)]) (rest := []) B d_X4_greatestCrowd_22 (t_J9_max_7cf53 x2 (σ.1 81 (((x1 * 20) + x3) : Int32).toNatClampNeg) σ rfl) m_J9_max_7cf53 w_WaterOthers_Ring_44 rfl rfl (Nat.le_of_ble_eq_true rfl) (by omega) (by decide) ?_
      refine g_istore_n B d_X4_greatestCrowd_25 rfl (by decide) ?_
      refine g_iinc (v := (x3 + 1)) B d_X4_greatestCrowd_26 rfl rfl (by decide) ?_
      refine g_goto (tgt := 4) B d_X4_greatestCrowd_29 (by decide) ?_
      exact g_cut rfl (ih (f_J9_max_7cf53 x2 (σ.1 81 (((x1 * 20) + x3) : Int32).toNatClampNeg)) (x3 + 1) h)
set_option maxRecDepth 20000 in
theorem t_X4_greatestCrowd {Z : q_Z} {l : Launch} (N : Nat) (a0 : Int32)  (σ : q_S) {r : Int32} (h : f_X4_greatestCrowd N a0 σ = some r) : q_M Z l y_X4_greatestCrowd prog_6_method_6_code 4 (some .int) 2 [.ref (Z.1 80), .int a0] σ (some (.int r)) σ := by
  refine q_met (by decide +kernel) (Nat.le_of_ble_eq_true rfl) (fun Γ hΓ B En => ?_)
  unfold f_X4_greatestCrowd at h
  refine g_cut (lv' := [(0, .ref (Z.1 80)), (1, .int a0)]) rfl ?_
  refine g_iconst (v := 0) B d_X4_greatestCrowd_0 (by decide) ?_
  refine g_istore_n B d_X4_greatestCrowd_1 rfl (by decide) ?_
  refine g_iconst (v := 0) B d_X4_greatestCrowd_2 (by decide) ?_
  refine g_istore_n B d_X4_greatestCrowd_3 rfl (by decide) ?_
  exact g_cut rfl (t_X4_greatestCrowd_4 B En N a0 N 0 0 h)

theorem w_WaterOthers_Ring_19 : Cond.methodLink "WaterOthers$Ring" 19 y_X4_fillCrowds ∈ q_tbl := q_mem 590 (by decide +kernel) (by decide +kernel)
theorem w_WaterOthers_Ring_23 : Cond.fieldLink "WaterOthers$Ring" 23 "WaterOthers$Ring" "askBeat" "I" ∈ q_tbl := q_mem 232 (by decide +kernel) (by decide +kernel)
theorem w_WaterOthers_Ring_27 : Cond.fieldLink "WaterOthers$Ring" 27 "WaterOthers$Ring" "askLeft" "I" ∈ q_tbl := q_mem 234 (by decide +kernel) (by decide +kernel)
theorem w_WaterOthers_Ring_30 : Cond.methodLink "WaterOthers$Ring" 30 y_X4_greatestCrowd ∈ q_tbl := q_mem 595 (by decide +kernel) (by decide +kernel)
def f_X4_seekQuestion_19 (N : Nat)    : Nat → Int32 → q_S → Option q_S
  | 0, _, _ => none
  | n + 1, x2, σ =>
    if (20 : Int32) ≤ x2 then (some σ)
    else ((f_X4_greatestCrowd N x2 σ).bind fun z27 =>
      if z27 ≤ 0 then (f_X4_seekQuestion_19 N n (x2 + 1) σ)
      else (if (σ.1 80 2) = (-6) then (f_X4_seekQuestion_19 N n (x2 + 1) (q_w (q_w σ 80 1 x2) 80 2 z27))
        else (if (σ.1 80 2) ≤ z27 then (f_X4_seekQuestion_19 N n (x2 + 1) σ)
          else (f_X4_seekQuestion_19 N n (x2 + 1) (q_w (q_w σ 80 1 x2) 80 2 z27)))))
def f_X4_seekQuestion (N : Nat) (a0 : Nat) (σ : q_S) : Option q_S :=
  (f_X4_fillCrowds N a0 σ).bind fun z2 =>
  f_X4_seekQuestion_19 N N 0 (q_w (q_w z2 80 1 (-6)) 80 2 (-6))
set_option maxRecDepth 20000 in
theorem t_X4_seekQuestion_19 {Z : q_Z} {Γ : q_C} {σ' : q_S} (B : q_B Z Γ prog_6_method_4_code "WaterOthers$Ring" 4 5) (En : q_E Z Γ none none σ') (N : Nat)     : ∀ (n : Nat) (x2 : Int32) (σ : q_S), f_X4_seekQuestion_19 N n x2 σ = some σ' → q_G Z Γ 4 σ 19 [(0, .ref (Z.1 80)), (2, .int x2)] [] := by
  intro n
  induction n with
  | zero =>
    intro x2 σ h
    cases h
  | succ n ih =>
    intro x2 σ h
    unfold f_X4_seekQuestion_19 at h
    refine g_iload_n B d_X4_seekQuestion_19 rfl rfl ?_
    refine g_bipush (v := 20) B d_X4_seekQuestion_20 (by decide) ?_
    refine g_icmp_ge (tgt := 68) B d_X4_seekQuestion_22 (by decide) h (fun h => ?_) (fun h => ?_)
    · obtain rfl := q_po h
      exact g_vret B En d_X4_seekQuestion_68
    · refine g_aload_n B d_X4_seekQuestion_25 rfl rfl ?_
      refine g_iload_n B d_X4_seekQuestion_26 rfl rfl ?_
      obtain ⟨z27, g27, h⟩ := q_bind h
      refine g_callV (p0 := 80) (ci := 4) (As := [.int x2]) (rest := []) B d_X4_seekQuestion_27 (t_X4_greatestCrowd N x2 σ g27) m_X4_greatestCrowd w_WaterOthers_Ring_30 (by decide) rfl rfl rfl rfl (Nat.le_of_ble_eq_true rfl) (by omega) (by decide) ?_
      refine g_istore_n B d_X4_seekQuestion_30 rfl (by decide) ?_
      refine g_iload_n B d_X4_seekQuestion_31 rfl rfl ?_
      refine g_if_le (tgt := 62) B d_X4_seekQuestion_32 (by decide) h (fun h => ?_) (fun h => ?_)
      · refine g_iinc (v := (x2 + 1)) B d_X4_seekQuestion_62 rfl rfl (by decide) ?_
        refine g_goto (tgt := 19) B d_X4_seekQuestion_65 (by decide) ?_
        exact g_cut rfl (ih (x2 + 1) σ h)
      · refine g_aload_n B d_X4_seekQuestion_35 rfl rfl ?_
        refine g_get (ci := 4) (k := 2) B d_X4_seekQuestion_36 q_in4 rfl (by decide) rfl (by decide) w_WaterOthers_Ring_27 rfl rfl ?_
        refine g_bipush (v := (-6)) B d_X4_seekQuestion_39 (by decide) ?_
        refine g_icmp_eq (tgt := 52) B d_X4_seekQuestion_41 (by decide) h (fun h => ?_) (fun h => ?_)
        · refine g_aload_n B d_X4_seekQuestion_52 rfl rfl ?_
          refine g_iload_n B d_X4_seekQuestion_53 rfl rfl ?_
          refine g_put (ci := 4) (k := 1) (v := x2) (ty := .int) B d_X4_seekQuestion_54 q_in4 rfl q_yk4 q_nm4 (by decide) (fun _ _ => rfl) (by decide) w_WaterOthers_Ring_23 rfl rfl rfl rfl rfl (Nat.le_of_ble_eq_true rfl) (fun _ _ => rfl) ?_
          refine g_aload_n B d_X4_seekQuestion_57 rfl rfl ?_
          refine g_iload_n B d_X4_seekQuestion_58 rfl rfl ?_
          refine g_put (ci := 4) (k := 2) (v := z27) (ty := .int) B d_X4_seekQuestion_59 q_in4 rfl q_yk4 q_nm4 (by decide) (fun _ _ => rfl) (by decide) w_WaterOthers_Ring_27 rfl rfl rfl rfl rfl (Nat.le_of_ble_eq_true rfl) (fun _ _ => rfl) ?_
          refine g_iinc (v := (x2 + 1)) B d_X4_seekQuestion_62 rfl rfl (by decide) ?_
          refine g_goto (tgt := 19) B d_X4_seekQuestion_65 (by decide) ?_
          exact g_cut rfl (ih (x2 + 1) (q_w (q_w σ 80 1 x2) 80 2 z27) h)
        · refine g_iload_n B d_X4_seekQuestion_44 rfl rfl ?_
          refine g_aload_n B d_X4_seekQuestion_45 rfl rfl ?_
          refine g_get (ci := 4) (k := 2) B d_X4_seekQuestion_46 q_in4 rfl (by decide) rfl (by decide) w_WaterOthers_Ring_27 rfl rfl ?_
          refine g_icmp_ge (tgt := 62) B d_X4_seekQuestion_49 (by decide) h (fun h => ?_) (fun h => ?_)
          · refine g_iinc (v := (x2 + 1)) B d_X4_seekQuestion_62 rfl rfl (by decide) ?_
            refine g_goto (tgt := 19) B d_X4_seekQuestion_65 (by decide) ?_
            exact g_cut rfl (ih (x2 + 1) σ h)
          · refine g_aload_n B d_X4_seekQuestion_52 rfl rfl ?_
            refine g_iload_n B d_X4_seekQuestion_53 rfl rfl ?_
            refine g_put (ci := 4) (k := 1) (v := x2) (ty := .int) B d_X4_seekQuestion_54 q_in4 rfl q_yk4 q_nm4 (by decide) (fun _ _ => rfl) (by decide) w_WaterOthers_Ring_23 rfl rfl rfl rfl rfl (Nat.le_of_ble_eq_true rfl) (fun _ _ => rfl) ?_
            refine g_aload_n B d_X4_seekQuestion_57 rfl rfl ?_
            refine g_iload_n B d_X4_seekQuestion_58 rfl rfl ?_
            refine g_put (ci := 4) (k := 2) (v := z27) (ty := .int) B d_X4_seekQuestion_59 q_in4 rfl q_yk4 q_nm4 (by decide) (fun _ _ => rfl) (by decide) w_WaterOthers_Ring_27 rfl rfl rfl rfl rfl (Nat.le_of_ble_eq_true rfl) (fun _ _ => rfl) ?_
            refine g_iinc (v := (x2 + 1)) B d_X4_seekQuestion_62 rfl rfl (by decide) ?_
            refine g_goto (tgt := 19) B d_X4_seekQuestion_65 (by decide) ?_
            exact g_cut rfl (ih (x2 + 1) (q_w (q_w σ 80 1 x2) 80 2 z27) h)
set_option maxRecDepth 20000 in
theorem t_X4_seekQuestion {Z : q_Z} {l : Launch} (N : Nat) (a0 : Nat) (h0 : q_Sg a0) (σ : q_S) {σ' : q_S} (h : f_X4_seekQuestion N a0 σ = some σ') : q_M Z l y_X4_seekQuestion prog_6_method_4_code 4 none 5 [.ref (Z.1 80), .ref (Z.1 a0)] σ none σ' := by
  refine q_met (by decide +kernel) (Nat.le_of_ble_eq_true rfl) (fun Γ hΓ B En => ?_)
  unfold f_X4_seekQuestion at h
  refine g_cut (lv' := [(0, .ref (Z.1 80)), (1, .ref (Z.1 a0))]) rfl ?_
  refine g_aload_n B d_X4_seekQuestion_0 rfl rfl ?_
  refine g_aload_n B d_X4_seekQuestion_1 rfl rfl ?_
  obtain ⟨z2, g2, h⟩ := q_bind h
  refine g_callV (p0 := 80) (ci := 4) (As := [.ref (Z.1 a0)]) (rest := []) B d_X4_seekQuestion_2 (t_X4_fillCrowds N a0 h0 σ g2) m_X4_fillCrowds w_WaterOthers_Ring_19 (by decide) rfl rfl rfl rfl (Nat.le_of_ble_eq_true rfl) (by omega) (by decide) ?_
  refine g_aload_n B d_X4_seekQuestion_5 rfl rfl ?_
  refine g_bipush (v := (-6)) B d_X4_seekQuestion_6 (by decide) ?_
  refine g_put (ci := 4) (k := 1) (v := (-6)) (ty := .int) B d_X4_seekQuestion_8 q_in4 rfl q_yk4 q_nm4 (by decide) (fun _ _ => rfl) (by decide) w_WaterOthers_Ring_23 rfl rfl rfl rfl rfl (Nat.le_of_ble_eq_true rfl) (fun _ _ => rfl) ?_
  refine g_aload_n B d_X4_seekQuestion_11 rfl rfl ?_
  refine g_bipush (v := (-6)) B d_X4_seekQuestion_12 (by decide) ?_
  refine g_put (ci := 4) (k := 2) (v := (-6)) (ty := .int) B d_X4_seekQuestion_14 q_in4 rfl q_yk4 q_nm4 (by decide) (fun _ _ => rfl) (by decide) w_WaterOthers_Ring_27 rfl rfl rfl rfl rfl (Nat.le_of_ble_eq_true rfl) (fun _ _ => rfl) ?_
  refine g_iconst (v := 0) B d_X4_seekQuestion_17 (by decide) ?_
  refine g_istore_n B d_X4_seekQuestion_18 rfl (by decide) ?_
  exact g_cut rfl (t_X4_seekQuestion_19 B En N N 0 (q_w (q_w z2 80 1 (-6)) 80 2 (-6)) h)

theorem w_WaterOthers_Telling_12 : Cond.fieldLink "WaterOthers$Telling" 12 "WaterOthers$Telling" "reach" "LWaterOthers$Reach;" ∈ q_tbl := q_mem 142 (by decide +kernel) (by decide +kernel)
theorem w_WaterOthers_Telling_22 : Cond.fieldLink "WaterOthers$Telling" 22 "WaterOthers$Telling" "acts" "I" ∈ q_tbl := q_mem 148 (by decide +kernel) (by decide +kernel)
theorem w_WaterOthers_Telling_26 : Cond.fieldLink "WaterOthers$Telling" 26 "WaterOthers$Telling" "barredAct" "I" ∈ q_tbl := q_mem 150 (by decide +kernel) (by decide +kernel)
theorem w_WaterOthers_Telling_29 : Cond.fieldLink "WaterOthers$Telling" 29 "WaterOthers$Telling" "barredWhy" "I" ∈ q_tbl := q_mem 152 (by decide +kernel) (by decide +kernel)
theorem w_WaterOthers_Telling_32 : Cond.fieldLink "WaterOthers$Telling" 32 "WaterOthers$Telling" "partingAct" "I" ∈ q_tbl := q_mem 154 (by decide +kernel) (by decide +kernel)
theorem w_WaterOthers_Telling_35 : Cond.fieldLink "WaterOthers$Telling" 35 "WaterOthers$Telling" "partingWho" "I" ∈ q_tbl := q_mem 156 (by decide +kernel) (by decide +kernel)
theorem w_WaterOthers_Telling_66 : Cond.methodLink "WaterOthers$Telling" 66 y_X3_whyNot ∈ q_tbl := q_mem 394 (by decide +kernel) (by decide +kernel)
theorem w_WaterOthers_Telling_70 : Cond.methodLink "WaterOthers$Telling" 70 y_X3_act ∈ q_tbl := q_mem 431 (by decide +kernel) (by decide +kernel)
theorem w_WaterOthers_Telling_73 : Cond.methodLink "WaterOthers$Telling" 73 y_X3_has ∈ q_tbl := q_mem 463 (by decide +kernel) (by decide +kernel)
theorem w_WaterOthers_Telling_77 : Cond.fieldLinkNest "WaterOthers$Telling" 77 "WaterOthers$Reach" "walkers" "[LWaterOthers$Walker;" "WaterOthers" ∈ q_nst := q_memN 117 (by decide +kernel) (by decide +kernel)
theorem w_WaterOthers_Telling_81 : Cond.fieldLinkNest "WaterOthers$Telling" 81 "WaterOthers$Walker" "parted" "Z" "WaterOthers" ∈ q_nst := q_memN 83 (by decide +kernel) (by decide +kernel)
def f_X6_tellAct_74 (N : Nat)  (x1 : Int32) (t0 : Int32) (σ : q_S) : Option q_S :=
  if t0 = 0 then (some (q_w σ 71 3 ((σ.1 71 3) + 1)))
  else (if (σ.1 71 6) = (-6) then (some (q_w (q_w (q_w σ 71 6 (σ.1 71 3)) 71 7 x1) 71 3 (((q_w (q_w σ 71 6 (σ.1 71 3)) 71 7 x1).1 71 3) + 1)))
    else (some (q_w σ 71 3 ((σ.1 71 3) + 1))))
def f_X6_tellAct (N : Nat) (a0 : Int32) (a1 : Int32) (σ : q_S) : Option q_S :=
  (f_X3_whyNot N 17 a0 a1 σ).bind fun z6 =>
  if z6 = 0 then ((f_X3_act N 17 a0 a1 σ).bind fun z34 =>
    if a1 = 42 then ((f_X3_has 17 a0 z34).bind fun z48 =>
      if z48 = 0 then (f_X6_tellAct_74 N a0 0 z34)
      else (if ¬ ((a0 : Int32) < 0 ∨ 6 ≤ (a0 : Int32).toNatClampNeg) then if (z34.1 (17 + 2 + (a0 : Int32).toNatClampNeg) 2) = 0 then (f_X6_tellAct_74 N a0 0 z34)
        else (f_X6_tellAct_74 N a0 1 z34) else none))
    else (f_X6_tellAct_74 N a0 0 z34))
  else (some (q_w (q_w σ 71 4 (σ.1 71 3)) 71 5 z6))
set_option maxRecDepth 20000 in
theorem t_X6_tellAct_74 {Z : q_Z} {Γ : q_C} {σ' : q_S} (B : q_B Z Γ prog_8_method_3_code "WaterOthers$Telling" 5 5) (En : q_E Z Γ none none σ') (N : Nat)  (x1 : Int32) (t0 : Int32)  (σ : q_S)  (h : f_X6_tellAct_74 N x1 t0 σ = some σ') : q_G Z Γ 5 σ 74 [(0, .ref (Z.1 71)), (1, .int x1)] [.int t0] := by
  unfold f_X6_tellAct_74 at h
  refine g_istore B d_X6_tellAct_74 (by decide) ?_
  refine g_iload B d_X6_tellAct_76 rfl ?_
  refine g_if_eq (tgt := 103) B d_X6_tellAct_78 (by decide) h (fun h => ?_) (fun h => ?_)
  · refine g_aload_n B d_X6_tellAct_103 rfl rfl ?_
    refine g_dup B d_X6_tellAct_104 rfl ?_
    refine g_get (ci := 6) (k := 3) B d_X6_tellAct_105 q_in6 rfl (by decide) rfl (by decide) w_WaterOthers_Telling_22 rfl rfl ?_
    refine g_iconst (v := 1) B d_X6_tellAct_108 (by decide) ?_
    refine g_iadd B d_X6_tellAct_109 ?_
    refine g_put (ci := 6) (k := 3) (v := ((σ.1 71 3) + 1)) (ty := .int) B d_X6_tellAct_110 q_in6 rfl q_yk6 q_nm6 (by decide) (fun _ _ => rfl) (by decide) w_WaterOthers_Telling_22 rfl rfl rfl rfl rfl (Nat.le_of_ble_eq_true rfl) (fun _ _ => rfl) ?_
    obtain rfl := q_po h
    exact g_vret B En d_X6_tellAct_113
  · refine g_aload_n B d_X6_tellAct_81 rfl rfl ?_
    refine g_get (ci := 6) (k := 6) B d_X6_tellAct_82 q_in6 rfl (by decide) rfl (by decide) w_WaterOthers_Telling_32 rfl rfl ?_
    refine g_bipush (v := (-6)) B d_X6_tellAct_85 (by decide) ?_
    refine g_icmp_ne (tgt := 103) B d_X6_tellAct_87 (by decide) h (fun h => ?_) (fun h => ?_)
    · refine g_aload_n B d_X6_tellAct_103 rfl rfl ?_
      refine g_dup B d_X6_tellAct_104 rfl ?_
      refine g_get (ci := 6) (k := 3) B d_X6_tellAct_105 q_in6 rfl (by decide) rfl (by decide) w_WaterOthers_Telling_22 rfl rfl ?_
      refine g_iconst (v := 1) B d_X6_tellAct_108 (by decide) ?_
      refine g_iadd B d_X6_tellAct_109 ?_
      refine g_put (ci := 6) (k := 3) (v := ((σ.1 71 3) + 1)) (ty := .int) B d_X6_tellAct_110 q_in6 rfl q_yk6 q_nm6 (by decide) (fun _ _ => rfl) (by decide) w_WaterOthers_Telling_22 rfl rfl rfl rfl rfl (Nat.le_of_ble_eq_true rfl) (fun _ _ => rfl) ?_
      obtain rfl := q_po h
      exact g_vret B En d_X6_tellAct_113
    · refine g_aload_n B d_X6_tellAct_90 rfl rfl ?_
      refine g_aload_n B d_X6_tellAct_91 rfl rfl ?_
      refine g_get (ci := 6) (k := 3) B d_X6_tellAct_92 q_in6 rfl (by decide) rfl (by decide) w_WaterOthers_Telling_22 rfl rfl ?_
      refine g_put (ci := 6) (k := 6) (v := (σ.1 71 3)) (ty := .int) B d_X6_tellAct_95 q_in6 rfl q_yk6 q_nm6 (by decide) (fun _ _ => rfl) (by decide) w_WaterOthers_Telling_32 rfl rfl rfl rfl rfl (Nat.le_of_ble_eq_true rfl) (fun _ _ => rfl) ?_
      refine g_aload_n B d_X6_tellAct_98 rfl rfl ?_
      refine g_iload_n B d_X6_tellAct_99 rfl rfl ?_
      refine g_put (ci := 6) (k := 7) (v := x1) (ty := .int) B d_X6_tellAct_100 q_in6 rfl q_yk6 q_nm6 (by decide) (fun _ _ => rfl) (by decide) w_WaterOthers_Telling_35 rfl rfl rfl rfl rfl (Nat.le_of_ble_eq_true rfl) (fun _ _ => rfl) ?_
      refine g_aload_n B d_X6_tellAct_103 rfl rfl ?_
      refine g_dup B d_X6_tellAct_104 rfl ?_
      refine g_get (ci := 6) (k := 3) B d_X6_tellAct_105 q_in6 rfl (by decide) rfl (by decide) w_WaterOthers_Telling_22 rfl rfl ?_
      refine g_iconst (v := 1) B d_X6_tellAct_108 (by decide) ?_
      refine g_iadd B d_X6_tellAct_109 ?_
      refine g_put (ci := 6) (k := 3) (v := (((q_w (q_w σ 71 6 (σ.1 71 3)) 71 7 x1).1 71 3) + 1)) (ty := .int) B d_X6_tellAct_110 q_in6 rfl q_yk6 q_nm6 (by decide) (fun _ _ => rfl) (by decide) w_WaterOthers_Telling_22 rfl rfl rfl rfl rfl (Nat.le_of_ble_eq_true rfl) (fun _ _ => rfl) ?_
      obtain rfl := q_po h
      exact g_vret B En d_X6_tellAct_113
set_option maxRecDepth 20000 in
theorem t_X6_tellAct {Z : q_Z} {l : Launch} (N : Nat) (a0 : Int32) (a1 : Int32)  (σ : q_S) {σ' : q_S} (h : f_X6_tellAct N a0 a1 σ = some σ') : q_M Z l y_X6_tellAct prog_8_method_3_code 5 none 5 [.ref (Z.1 71), .int a0, .int a1] σ none σ' := by
  refine q_met (by decide +kernel) (Nat.le_of_ble_eq_true rfl) (fun Γ hΓ B En => ?_)
  unfold f_X6_tellAct at h
  refine g_cut (lv' := [(0, .ref (Z.1 71)), (1, .int a0), (2, .int a1)]) rfl ?_
  refine g_aload_n B d_X6_tellAct_0 rfl rfl ?_
  refine g_get (ci := 6) (k := 0) (v := .ref (Z.1 17)) B d_X6_tellAct_1 q_in6 rfl (by decide) rfl (by decide) w_WaterOthers_Telling_12 rfl rfl ?_
  refine g_iload_n B d_X6_tellAct_4 rfl rfl ?_
  refine g_iload_n B d_X6_tellAct_5 rfl rfl ?_
  obtain ⟨z6, g6, h⟩ := q_bind h
  refine g_callV (p0 := 17) (ci := 3) (As := [.int a0, .int a1]) (rest := []) B d_X6_tellAct_6 (t_X3_whyNot N 17 a0 a1 q_r17 σ g6) m_X3_whyNot w_WaterOthers_Telling_66 (q_Rlt q_r17) ((q_cR q_r17) _ _) rfl rfl rfl (Nat.le_of_ble_eq_true rfl) (by omega) (by decide) ?_
  refine g_istore_n B d_X6_tellAct_9 rfl (by decide) ?_
  refine g_iload_n B d_X6_tellAct_10 rfl rfl ?_
  refine g_if_eq (tgt := 28) B d_X6_tellAct_11 (by decide) h (fun h => ?_) (fun h => ?_)
  · refine g_aload_n B d_X6_tellAct_28 rfl rfl ?_
    refine g_get (ci := 6) (k := 0) (v := .ref (Z.1 17)) B d_X6_tellAct_29 q_in6 rfl (by decide) rfl (by decide) w_WaterOthers_Telling_12 rfl rfl ?_
    refine g_iload_n B d_X6_tellAct_32 rfl rfl ?_
    refine g_iload_n B d_X6_tellAct_33 rfl rfl ?_
    obtain ⟨z34, g34, h⟩ := q_bind h
    refine g_callV (p0 := 17) (ci := 3) (As := [.int a0, .int a1]) (rest := []) B d_X6_tellAct_34 (t_X3_act N 17 a0 a1 q_r17 σ g34) m_X3_act w_WaterOthers_Telling_70 (q_Rlt q_r17) ((q_cR q_r17) _ _) rfl rfl rfl (Nat.le_of_ble_eq_true rfl) (by omega) (by decide) ?_
    refine g_iload_n B d_X6_tellAct_37 rfl rfl ?_
    refine g_bipush (v := 42) B d_X6_tellAct_38 (by decide) ?_
    refine g_icmp_ne (tgt := 73) B d_X6_tellAct_40 (by decide) h (fun h => ?_) (fun h => ?_)
    · refine g_iconst (v := 0) B d_X6_tellAct_73 (by decide) ?_
      exact g_cut rfl (t_X6_tellAct_74 B En N a0 0 z34 h)
    · refine g_aload_n B d_X6_tellAct_43 rfl rfl ?_
      refine g_get (ci := 6) (k := 0) (v := .ref (Z.1 17)) B d_X6_tellAct_44 q_in6 rfl (by decide) rfl (by decide) w_WaterOthers_Telling_12 rfl rfl ?_
      refine g_iload_n B d_X6_tellAct_47 rfl rfl ?_
      obtain ⟨z48, g48, h⟩ := q_bind h
      refine g_callV (p0 := 17) (ci := 3) (As := [.int a0]) (rest := []) B d_X6_tellAct_48 (t_X3_has 17 a0 q_r17 z34 g48) m_X3_has w_WaterOthers_Telling_73 (q_Rlt q_r17) ((q_cR q_r17) _ _) rfl rfl rfl (Nat.le_of_ble_eq_true rfl) (by omega) (by decide) ?_
      refine g_if_eq (tgt := 73) B d_X6_tellAct_51 (by decide) h (fun h => ?_) (fun h => ?_)
      · refine g_iconst (v := 0) B d_X6_tellAct_73 (by decide) ?_
        exact g_cut rfl (t_X6_tellAct_74 B En N a0 0 z34 h)
      · refine g_aload_n B d_X6_tellAct_54 rfl rfl ?_
        refine g_get (ci := 6) (k := 0) (v := .ref (Z.1 17)) B d_X6_tellAct_55 q_in6 rfl (by decide) rfl (by decide) w_WaterOthers_Telling_12 rfl rfl ?_
        refine g_getN (ci := 3) (k := 4) (v := .ref (Z.1 18)) B d_X6_tellAct_58 q_in3 rfl (q_Rlt q_r17) ((q_cR q_r17) _ _) (by decide) w_WaterOthers_Telling_77 rfl rfl ?_
        refine g_iload_n B d_X6_tellAct_61 rfl rfl ?_
        obtain ⟨h62, h⟩ := q_chk h
        refine g_aald (t := 4) (f := (fun j => 17 + 2 + j)) B d_X6_tellAct_62 (q_RAlt q_r17) (q_cRA q_r17) rfl h62 ?_
        refine g_getN (ci := 8) (k := 2) B d_X6_tellAct_63 q_in8 rfl (q_Wlt (q_RW q_r17 h62)) ((q_cW (q_RW q_r17 h62)) _ _) (by decide) w_WaterOthers_Telling_81 rfl rfl ?_
        refine g_if_eq (tgt := 73) B d_X6_tellAct_66 (by decide) h (fun h => ?_) (fun h => ?_)
        · refine g_iconst (v := 0) B d_X6_tellAct_73 (by decide) ?_
          exact g_cut rfl (t_X6_tellAct_74 B En N a0 0 z34 h)
        · refine g_iconst (v := 1) B d_X6_tellAct_69 (by decide) ?_
          refine g_goto (tgt := 74) B d_X6_tellAct_70 (by decide) ?_
          exact g_cut rfl (t_X6_tellAct_74 B En N a0 1 z34 h)
  · refine g_aload_n B d_X6_tellAct_14 rfl rfl ?_
    refine g_aload_n B d_X6_tellAct_15 rfl rfl ?_
    refine g_get (ci := 6) (k := 3) B d_X6_tellAct_16 q_in6 rfl (by decide) rfl (by decide) w_WaterOthers_Telling_22 rfl rfl ?_
    refine g_put (ci := 6) (k := 4) (v := (σ.1 71 3)) (ty := .int) B d_X6_tellAct_19 q_in6 rfl q_yk6 q_nm6 (by decide) (fun _ _ => rfl) (by decide) w_WaterOthers_Telling_26 rfl rfl rfl rfl rfl (Nat.le_of_ble_eq_true rfl) (fun _ _ => rfl) ?_
    refine g_aload_n B d_X6_tellAct_22 rfl rfl ?_
    refine g_iload_n B d_X6_tellAct_23 rfl rfl ?_
    refine g_put (ci := 6) (k := 5) (v := z6) (ty := .int) B d_X6_tellAct_24 q_in6 rfl q_yk6 q_nm6 (by decide) (fun _ _ => rfl) (by decide) w_WaterOthers_Telling_29 rfl rfl rfl rfl rfl (Nat.le_of_ble_eq_true rfl) (fun _ _ => rfl) ?_
    obtain rfl := q_po h
    exact g_vret B En d_X6_tellAct_27

theorem w_WaterOthers_Telling_18 : Cond.methodLink "WaterOthers$Telling" 18 y_X3_copy ∈ q_tbl := q_mem 372 (by decide +kernel) (by decide +kernel)
theorem w_WaterOthers_Telling_38 : Cond.methodLink "WaterOthers$Telling" 38 y_X2_firstFault ∈ q_tbl := q_mem 388 (by decide +kernel) (by decide +kernel)
theorem w_WaterOthers_Telling_44 : Cond.fieldLink "WaterOthers$Telling" 44 "WaterOthers$Telling" "isFaulty" "Z" ∈ q_tbl := q_mem 144 (by decide +kernel) (by decide +kernel)
theorem w_WaterOthers_Telling_48 : Cond.fieldLinkNest "WaterOthers$Telling" 48 "WaterOthers$Pad" "count" "I" "WaterOthers" ∈ q_nst := q_memN 33 (by decide +kernel) (by decide +kernel)
theorem w_WaterOthers_Telling_51 : Cond.fieldLinkNest "WaterOthers$Telling" 51 "WaterOthers$Pad" "signs" "[C" "WaterOthers" ∈ q_nst := q_memN 31 (by decide +kernel) (by decide +kernel)
theorem w_WaterOthers_Telling_55 : Cond.methodLink "WaterOthers$Telling" 55 y_X2_isLetter ∈ q_tbl := q_mem 389 (by decide +kernel) (by decide +kernel)
theorem w_WaterOthers_Telling_59 : Cond.methodLink "WaterOthers$Telling" 59 y_X6_tellAct ∈ q_tbl := q_mem 390 (by decide +kernel) (by decide +kernel)
theorem w_WaterOthers_Telling_63 : Cond.fieldLink "WaterOthers$Telling" 63 "WaterOthers$Telling" "canBe" "Z" ∈ q_tbl := q_mem 146 (by decide +kernel) (by decide +kernel)
def f_X6_tell_132 (N : Nat)   (σ : q_S) : Option q_S :=
  if (σ.1 71 1) = 0 then (if (σ.1 71 4) = (-6) then (some (q_w σ 71 2 1))
    else (some (q_w σ 71 2 0)))
  else (some (q_w σ 71 2 0))
def f_X6_tell_61 (N : Nat)    : Nat → Int32 → Int32 → q_S → Option q_S
  | 0, _, _, _ => none
  | n + 1, x3, x4, σ =>
    if (σ.1 69 1) ≤ x4 then (f_X6_tell_132 N σ)
    else (if (60 : Int32) ≤ x4 then (f_X6_tell_132 N σ)
      else (if (σ.1 71 1) = 0 then (if (σ.1 71 4) = (-6) then (if ¬ ((x4 : Int32) < 0 ∨ 60 ≤ (x4 : Int32).toNatClampNeg) then if (f_X2_isLetter (σ.1 70 (x4 : Int32).toNatClampNeg)) = 0 then ((f_X6_tellAct N x3 (σ.1 70 (x4 : Int32).toNatClampNeg) σ).bind fun z123 =>
              f_X6_tell_61 N n x3 (x4 + 1) z123)
            else (f_X6_tell_61 N n ((σ.1 70 (x4 : Int32).toNatClampNeg) - 65) (x4 + 1) σ) else none)
          else (f_X6_tell_132 N σ))
        else (f_X6_tell_132 N σ)))
def f_X6_tell (N : Nat) (a1 : Nat) (σ : q_S) : Option q_S :=
  (f_X3_copy N 17 a1 σ).bind fun z5 =>
  (f_X2_firstFault N (q_w (q_w (q_w (q_w (q_w z5 71 3 0) 71 4 (-6)) 71 5 (-6)) 71 6 (-6)) 71 7 (-6))).bind fun z39 =>
  if z39 = (-6) then (f_X6_tell_61 N N (-6) 0 (q_w (q_w (q_w (q_w (q_w (q_w z5 71 3 0) 71 4 (-6)) 71 5 (-6)) 71 6 (-6)) 71 7 (-6)) 71 1 0))
  else (f_X6_tell_61 N N (-6) 0 (q_w (q_w (q_w (q_w (q_w (q_w z5 71 3 0) 71 4 (-6)) 71 5 (-6)) 71 6 (-6)) 71 7 (-6)) 71 1 1))
set_option maxRecDepth 20000 in
theorem t_X6_tell_132 {Z : q_Z} {Γ : q_C} {σ' : q_S} (B : q_B Z Γ prog_8_method_2_code "WaterOthers$Telling" 6 6) (En : q_E Z Γ none none σ') (N : Nat)    (σ : q_S)  (h : f_X6_tell_132 N σ = some σ') : q_G Z Γ 6 σ 132 [(0, .ref (Z.1 71))] [] := by
  unfold f_X6_tell_132 at h
  refine g_aload_n B d_X6_tell_132 rfl rfl ?_
  refine g_aload_n B d_X6_tell_133 rfl rfl ?_
  refine g_get (ci := 6) (k := 1) B d_X6_tell_134 q_in6 rfl (by decide) rfl (by decide) w_WaterOthers_Telling_44 rfl rfl ?_
  refine g_if_ne (tgt := 153) B d_X6_tell_137 (by decide) h (fun h => ?_) (fun h => ?_)
  · refine g_iconst (v := 0) B d_X6_tell_153 (by decide) ?_
    refine g_put (ci := 6) (k := 2) (v := 0) (ty := .boolean) B d_X6_tell_154 q_in6 rfl q_yk6 q_nm6 (by decide) (fun _ _ => rfl) (by decide) w_WaterOthers_Telling_63 rfl rfl rfl (by decide) (by decide) (Nat.le_of_ble_eq_true rfl) (fun _ _ => rfl) ?_
    obtain rfl := q_po h
    exact g_vret B En d_X6_tell_157
  · refine g_aload_n B d_X6_tell_140 rfl rfl ?_
    refine g_get (ci := 6) (k := 4) B d_X6_tell_141 q_in6 rfl (by decide) rfl (by decide) w_WaterOthers_Telling_26 rfl rfl ?_
    refine g_bipush (v := (-6)) B d_X6_tell_144 (by decide) ?_
    refine g_icmp_ne (tgt := 153) B d_X6_tell_146 (by decide) h (fun h => ?_) (fun h => ?_)
    · refine g_iconst (v := 0) B d_X6_tell_153 (by decide) ?_
      refine g_put (ci := 6) (k := 2) (v := 0) (ty := .boolean) B d_X6_tell_154 q_in6 rfl q_yk6 q_nm6 (by decide) (fun _ _ => rfl) (by decide) w_WaterOthers_Telling_63 rfl rfl rfl (by decide) (by decide) (Nat.le_of_ble_eq_true rfl) (fun _ _ => rfl) ?_
      obtain rfl := q_po h
      exact g_vret B En d_X6_tell_157
    · refine g_iconst (v := 1) B d_X6_tell_149 (by decide) ?_
      refine g_goto (tgt := 154) B d_X6_tell_150 (by decide) ?_
      refine g_put (ci := 6) (k := 2) (v := 1) (ty := .boolean) B d_X6_tell_154 q_in6 rfl q_yk6 q_nm6 (by decide) (fun _ _ => rfl) (by decide) w_WaterOthers_Telling_63 rfl rfl rfl (by decide) (by decide) (Nat.le_of_ble_eq_true rfl) (fun _ _ => rfl) ?_
      obtain rfl := q_po h
      exact g_vret B En d_X6_tell_157
set_option maxRecDepth 20000 in
theorem t_X6_tell_61 {Z : q_Z} {Γ : q_C} {σ' : q_S} (B : q_B Z Γ prog_8_method_2_code "WaterOthers$Telling" 6 6) (En : q_E Z Γ none none σ') (N : Nat)     : ∀ (n : Nat) (x3 : Int32) (x4 : Int32) (σ : q_S), f_X6_tell_61 N n x3 x4 σ = some σ' → q_G Z Γ 6 σ 61 [(0, .ref (Z.1 71)), (1, .ref (Z.1 69)), (3, .int x3), (4, .int x4)] [] := by
  intro n
  induction n with
  | zero =>
    intro x3 x4 σ h
    cases h
  | succ n ih =>
    intro x3 x4 σ h
    unfold f_X6_tell_61 at h
    refine g_iload B d_X6_tell_61 rfl ?_
    refine g_aload_n B d_X6_tell_63 rfl rfl ?_
    refine g_getN (ci := 2) (k := 1) B d_X6_tell_64 q_in2 rfl (by decide) rfl (by decide) w_WaterOthers_Telling_48 rfl rfl ?_
    refine g_icmp_ge (tgt := 132) B d_X6_tell_67 (by decide) h (fun h => ?_) (fun h => ?_)
    · exact g_cut rfl (t_X6_tell_132 B En N σ h)
    · refine g_iload B d_X6_tell_70 rfl ?_
      refine g_bipush (v := 60) B d_X6_tell_72 (by decide) ?_
      refine g_icmp_ge (tgt := 132) B d_X6_tell_74 (by decide) h (fun h => ?_) (fun h => ?_)
      · exact g_cut rfl (t_X6_tell_132 B En N σ h)
      · refine g_aload_n B d_X6_tell_77 rfl rfl ?_
        refine g_get (ci := 6) (k := 1) B d_X6_tell_78 q_in6 rfl (by decide) rfl (by decide) w_WaterOthers_Telling_44 rfl rfl ?_
        refine g_if_ne (tgt := 132) B d_X6_tell_81 (by decide) h (fun h => ?_) (fun h => ?_)
        · exact g_cut rfl (t_X6_tell_132 B En N σ h)
        · refine g_aload_n B d_X6_tell_84 rfl rfl ?_
          refine g_get (ci := 6) (k := 4) B d_X6_tell_85 q_in6 rfl (by decide) rfl (by decide) w_WaterOthers_Telling_26 rfl rfl ?_
          refine g_bipush (v := (-6)) B d_X6_tell_88 (by decide) ?_
          refine g_icmp_ne (tgt := 132) B d_X6_tell_90 (by decide) h (fun h => ?_) (fun h => ?_)
          · exact g_cut rfl (t_X6_tell_132 B En N σ h)
          · refine g_aload_n B d_X6_tell_93 rfl rfl ?_
            refine g_getN (ci := 2) (k := 0) (v := .ref (Z.1 70)) B d_X6_tell_94 q_in2 rfl (by decide) rfl (by decide) w_WaterOthers_Telling_51 rfl rfl ?_
            refine g_iload B d_X6_tell_97 rfl ?_
            obtain ⟨h99, h⟩ := q_chk h
            refine g_cald B d_X6_tell_99 (by decide) (fun _ _ => rfl) h99 ?_
            refine g_istore B d_X6_tell_100 (by decide) ?_
            refine g_iload B d_X6_tell_102 rfl ?_
            refine g_callS (As := [.int (σ.1 70 (x4 : Int32).toNatClampNeg)]) (rest := []) B d_X6_tell_104 (t_X2_isLetter (σ.1 70 (x4 : Int32).toNatClampNeg) σ rfl) m_X2_isLetter w_WaterOthers_Telling_55 rfl rfl (Nat.le_of_ble_eq_true rfl) (by omega) (by decide) ?_
            refine g_if_eq (tgt := 119) B d_X6_tell_107 (by decide) h (fun h => ?_) (fun h => ?_)
            · refine g_aload_n B d_X6_tell_119 rfl rfl ?_
              refine g_iload_n B d_X6_tell_120 rfl rfl ?_
              refine g_iload B d_X6_tell_121 rfl ?_
              obtain ⟨z123, g123, h⟩ := q_bind h
              refine g_callV (p0 := 71) (ci := 6) (As := [.int x3, .int (σ.1 70 (x4 : Int32).toNatClampNeg)]) (rest := []) B d_X6_tell_123 (t_X6_tellAct N x3 (σ.1 70 (x4 : Int32).toNatClampNeg) σ g123) m_X6_tellAct w_WaterOthers_Telling_59 (by decide) rfl rfl rfl rfl (Nat.le_of_ble_eq_true rfl) (by omega) (by decide) ?_
              refine g_iinc (v := (x4 + 1)) B d_X6_tell_126 rfl rfl (by decide) ?_
              refine g_goto (tgt := 61) B d_X6_tell_129 (by decide) ?_
              exact g_cut rfl (ih x3 (x4 + 1) z123 h)
            · refine g_iload B d_X6_tell_110 rfl ?_
              refine g_bipush (v := 65) B d_X6_tell_112 (by decide) ?_
              refine g_isub B d_X6_tell_114 ?_
              refine g_istore_n B d_X6_tell_115 rfl (by decide) ?_
              refine g_goto (tgt := 126) B d_X6_tell_116 (by decide) ?_
              refine g_iinc (v := (x4 + 1)) B d_X6_tell_126 rfl rfl (by decide) ?_
              refine g_goto (tgt := 61) B d_X6_tell_129 (by decide) ?_
              exact g_cut rfl (ih ((σ.1 70 (x4 : Int32).toNatClampNeg) - 65) (x4 + 1) σ h)
set_option maxRecDepth 20000 in
theorem t_X6_tell {Z : q_Z} {l : Launch} (N : Nat) (a1 : Nat) (h1 : q_R a1) (σ : q_S) {σ' : q_S} (h : f_X6_tell N a1 σ = some σ') : q_M Z l y_X6_tell prog_8_method_2_code 6 none 6 [.ref (Z.1 71), .ref (Z.1 69), .ref (Z.1 a1)] σ none σ' := by
  refine q_met (by decide +kernel) (Nat.le_of_ble_eq_true rfl) (fun Γ hΓ B En => ?_)
  unfold f_X6_tell at h
  refine g_cut (lv' := [(0, .ref (Z.1 71)), (1, .ref (Z.1 69)), (2, .ref (Z.1 a1))]) rfl ?_
  refine g_aload_n B d_X6_tell_0 rfl rfl ?_
  refine g_get (ci := 6) (k := 0) (v := .ref (Z.1 17)) B d_X6_tell_1 q_in6 rfl (by decide) rfl (by decide) w_WaterOthers_Telling_12 rfl rfl ?_
  refine g_aload_n B d_X6_tell_4 rfl rfl ?_
  obtain ⟨z5, g5, h⟩ := q_bind h
  refine g_callV (p0 := 17) (ci := 3) (As := [.ref (Z.1 a1)]) (rest := []) B d_X6_tell_5 (t_X3_copy N 17 a1 q_r17 h1 σ g5) m_X3_copy w_WaterOthers_Telling_18 (q_Rlt q_r17) ((q_cR q_r17) _ _) rfl rfl rfl (Nat.le_of_ble_eq_true rfl) (by omega) (by decide) ?_
  refine g_aload_n B d_X6_tell_8 rfl rfl ?_
  refine g_iconst (v := 0) B d_X6_tell_9 (by decide) ?_
  refine g_put (ci := 6) (k := 3) (v := 0) (ty := .int) B d_X6_tell_10 q_in6 rfl q_yk6 q_nm6 (by decide) (fun _ _ => rfl) (by decide) w_WaterOthers_Telling_22 rfl rfl rfl rfl rfl (Nat.le_of_ble_eq_true rfl) (fun _ _ => rfl) ?_
  refine g_aload_n B d_X6_tell_13 rfl rfl ?_
  refine g_bipush (v := (-6)) B d_X6_tell_14 (by decide) ?_
  refine g_put (ci := 6) (k := 4) (v := (-6)) (ty := .int) B d_X6_tell_16 q_in6 rfl q_yk6 q_nm6 (by decide) (fun _ _ => rfl) (by decide) w_WaterOthers_Telling_26 rfl rfl rfl rfl rfl (Nat.le_of_ble_eq_true rfl) (fun _ _ => rfl) ?_
  refine g_aload_n B d_X6_tell_19 rfl rfl ?_
  refine g_bipush (v := (-6)) B d_X6_tell_20 (by decide) ?_
  refine g_put (ci := 6) (k := 5) (v := (-6)) (ty := .int) B d_X6_tell_22 q_in6 rfl q_yk6 q_nm6 (by decide) (fun _ _ => rfl) (by decide) w_WaterOthers_Telling_29 rfl rfl rfl rfl rfl (Nat.le_of_ble_eq_true rfl) (fun _ _ => rfl) ?_
  refine g_aload_n B d_X6_tell_25 rfl rfl ?_
  refine g_bipush (v := (-6)) B d_X6_tell_26 (by decide) ?_
  refine g_put (ci := 6) (k := 6) (v := (-6)) (ty := .int) B d_X6_tell_28 q_in6 rfl q_yk6 q_nm6 (by decide) (fun _ _ => rfl) (by decide) w_WaterOthers_Telling_32 rfl rfl rfl rfl rfl (Nat.le_of_ble_eq_true rfl) (fun _ _ => rfl) ?_
  refine g_aload_n B d_X6_tell_31 rfl rfl ?_
  refine g_bipush (v := (-6)) B d_X6_tell_32 (by decide) ?_
  refine g_put (ci := 6) (k := 7) (v := (-6)) (ty := .int) B d_X6_tell_34 q_in6 rfl q_yk6 q_nm6 (by decide) (fun _ _ => rfl) (by decide) w_WaterOthers_Telling_35 rfl rfl rfl rfl rfl (Nat.le_of_ble_eq_true rfl) (fun _ _ => rfl) ?_
  refine g_aload_n B d_X6_tell_37 rfl rfl ?_
  refine g_aload_n B d_X6_tell_38 rfl rfl ?_
  obtain ⟨z39, g39, h⟩ := q_bind h
  refine g_callV (p0 := 69) (ci := 2) (As := []) (rest := [.ref (Z.1 71)]) B d_X6_tell_39 (t_X2_firstFault N (q_w (q_w (q_w (q_w (q_w z5 71 3 0) 71 4 (-6)) 71 5 (-6)) 71 6 (-6)) 71 7 (-6)) g39) m_X2_firstFault w_WaterOthers_Telling_38 (by decide) rfl rfl rfl rfl (Nat.le_of_ble_eq_true rfl) (by omega) (by decide) ?_
  refine g_bipush (v := (-6)) B d_X6_tell_42 (by decide) ?_
  refine g_icmp_eq (tgt := 51) B d_X6_tell_44 (by decide) h (fun h => ?_) (fun h => ?_)
  · refine g_iconst (v := 0) B d_X6_tell_51 (by decide) ?_
    refine g_put (ci := 6) (k := 1) (v := 0) (ty := .boolean) B d_X6_tell_52 q_in6 rfl q_yk6 q_nm6 (by decide) (fun _ _ => rfl) (by decide) w_WaterOthers_Telling_44 rfl rfl rfl (by decide) (by decide) (Nat.le_of_ble_eq_true rfl) (fun _ _ => rfl) ?_
    refine g_bipush (v := (-6)) B d_X6_tell_55 (by decide) ?_
    refine g_istore_n B d_X6_tell_57 rfl (by decide) ?_
    refine g_iconst (v := 0) B d_X6_tell_58 (by decide) ?_
    refine g_istore B d_X6_tell_59 (by decide) ?_
    exact g_cut rfl (t_X6_tell_61 B En N N (-6) 0 (q_w (q_w (q_w (q_w (q_w (q_w z5 71 3 0) 71 4 (-6)) 71 5 (-6)) 71 6 (-6)) 71 7 (-6)) 71 1 0) h)
  · refine g_iconst (v := 1) B d_X6_tell_47 (by decide) ?_
    refine g_goto (tgt := 52) B d_X6_tell_48 (by decide) ?_
    refine g_put (ci := 6) (k := 1) (v := 1) (ty := .boolean) B d_X6_tell_52 q_in6 rfl q_yk6 q_nm6 (by decide) (fun _ _ => rfl) (by decide) w_WaterOthers_Telling_44 rfl rfl rfl (by decide) (by decide) (Nat.le_of_ble_eq_true rfl) (fun _ _ => rfl) ?_
    refine g_bipush (v := (-6)) B d_X6_tell_55 (by decide) ?_
    refine g_istore_n B d_X6_tell_57 rfl (by decide) ?_
    refine g_iconst (v := 0) B d_X6_tell_58 (by decide) ?_
    refine g_istore B d_X6_tell_59 (by decide) ?_
    exact g_cut rfl (t_X6_tell_61 B En N N (-6) 0 (q_w (q_w (q_w (q_w (q_w (q_w z5 71 3 0) 71 4 (-6)) 71 5 (-6)) 71 6 (-6)) 71 7 (-6)) 71 1 1) h)

theorem w_WaterOthers_TripFinder_25 : Cond.fieldLinkNest "WaterOthers$TripFinder" 25 "WaterOthers$Walker" "was" "[I" "WaterOthers" ∈ q_nst := q_memN 92 (by decide +kernel) (by decide +kernel)
theorem w_WaterOthers_TripFinder_52 : Cond.fieldLinkNest "WaterOthers$TripFinder" 52 "WaterOthers$Walker" "late" "I" "WaterOthers" ∈ q_nst := q_memN 79 (by decide +kernel) (by decide +kernel)
def f_X7_lastActs_7 (N : Nat)  (p0 : Nat) (σ : q_S) : Nat → Int32 → Int32 → Option Int32
  | 0, _, _ => none
  | n + 1, x1, x2 =>
    if x2 ≤ 0 then (some x1)
    else (if ¬ (((x2 - 1) : Int32) < 0 ∨ 6 ≤ ((x2 - 1) : Int32).toNatClampNeg) then if ¬ ((x2 : Int32) < 0 ∨ 6 ≤ (x2 : Int32).toNatClampNeg) then if ((σ.1 (p0 + 6) ((x2 - 1) : Int32).toNatClampNeg) - (σ.1 (p0 + 6) (x2 : Int32).toNatClampNeg)) = 0 then (f_X7_lastActs_7 N p0 σ n ((x1 * 3) + 0) (x2 + (-1)))
      else (if (0 : Int32) ≤ ((σ.1 (p0 + 6) ((x2 - 1) : Int32).toNatClampNeg) - (σ.1 (p0 + 6) (x2 : Int32).toNatClampNeg)) then (f_X7_lastActs_7 N p0 σ n ((x1 * 3) + 2) (x2 + (-1)))
        else (f_X7_lastActs_7 N p0 σ n ((x1 * 3) + 1) (x2 + (-1)))) else none else none)
def f_X7_lastActs (N : Nat) (a0 : Nat) (σ : q_S) : Option Int32 :=
  f_X7_lastActs_7 N a0 σ N 0 (σ.1 a0 1)
set_option maxRecDepth 20000 in
theorem t_X7_lastActs_7 {Z : q_Z} {Γ : q_C} {σ : q_S} {r : Int32} (B : q_B Z Γ prog_9_method_6_code "WaterOthers$TripFinder" 4 1) (En : q_E Z Γ (some .int) (some (.int r)) σ) (N : Nat)  (p0 : Nat)  (hp0 : q_Wk p0) : ∀ (n : Nat) (x1 : Int32) (x2 : Int32), f_X7_lastActs_7 N p0 σ n x1 x2 = some r → q_G Z Γ 4 σ 7 [(0, .ref (Z.1 p0)), (1, .int x1), (2, .int x2)] [] := by
  intro n
  induction n with
  | zero =>
    intro x1 x2 h
    cases h
  | succ n ih =>
    intro x1 x2 h
    unfold f_X7_lastActs_7 at h
    refine g_iload_n B d_X7_lastActs_7 rfl rfl ?_
    refine g_if_le (tgt := 55) B d_X7_lastActs_8 (by decide) h (fun h => ?_) (fun h => ?_)
    · refine g_iload_n B d_X7_lastActs_55 rfl rfl ?_
      obtain rfl := q_po h
      exact g_iret B En d_X7_lastActs_56
    · refine g_aload_n B d_X7_lastActs_11 rfl rfl ?_
      refine g_getN (ci := 8) (k := 5) (v := .ref (Z.1 (p0 + 6))) B d_X7_lastActs_12 q_in8 rfl (q_Wlt hp0) ((q_cW hp0) _ _) (by decide) w_WaterOthers_TripFinder_25 rfl rfl ?_
      refine g_iload_n B d_X7_lastActs_15 rfl rfl ?_
      refine g_iconst (v := 1) B d_X7_lastActs_16 (by decide) ?_
      refine g_isub B d_X7_lastActs_17 ?_
      obtain ⟨h18, h⟩ := q_chk h
      refine g_iald B d_X7_lastActs_18 (q_WAlt hp0) (q_cWA hp0) h18 ?_
      refine g_aload_n B d_X7_lastActs_19 rfl rfl ?_
      refine g_getN (ci := 8) (k := 5) (v := .ref (Z.1 (p0 + 6))) B d_X7_lastActs_20 q_in8 rfl (q_Wlt hp0) ((q_cW hp0) _ _) (by decide) w_WaterOthers_TripFinder_25 rfl rfl ?_
      refine g_iload_n B d_X7_lastActs_23 rfl rfl ?_
      obtain ⟨h24, h⟩ := q_chk h
      refine g_iald B d_X7_lastActs_24 (q_WAlt hp0) (q_cWA hp0) h24 ?_
      refine g_isub B d_X7_lastActs_25 ?_
      refine g_istore_n B d_X7_lastActs_26 rfl (by decide) ?_
      refine g_iload_n B d_X7_lastActs_27 rfl rfl ?_
      refine g_iconst (v := 3) B d_X7_lastActs_28 (by decide) ?_
      refine g_imul B d_X7_lastActs_29 ?_
      refine g_iload_n B d_X7_lastActs_30 rfl rfl ?_
      refine g_if_ne (tgt := 38) B d_X7_lastActs_31 (by decide) h (fun h => ?_) (fun h => ?_)
      · refine g_iload_n B d_X7_lastActs_38 rfl rfl ?_
        refine g_if_ge (tgt := 46) B d_X7_lastActs_39 (by decide) h (fun h => ?_) (fun h => ?_)
        · refine g_iconst (v := 2) B d_X7_lastActs_46 (by decide) ?_
          refine g_iadd B d_X7_lastActs_47 ?_
          refine g_istore_n B d_X7_lastActs_48 rfl (by decide) ?_
          refine g_iinc (v := (x2 + (-1))) B d_X7_lastActs_49 rfl rfl (by decide) ?_
          refine g_goto (tgt := 7) B d_X7_lastActs_52 (by decide) ?_
          exact g_cut rfl (ih ((x1 * 3) + 2) (x2 + (-1)) h)
        · refine g_iconst (v := 1) B d_X7_lastActs_42 (by decide) ?_
          refine g_goto (tgt := 47) B d_X7_lastActs_43 (by decide) ?_
          refine g_iadd B d_X7_lastActs_47 ?_
          refine g_istore_n B d_X7_lastActs_48 rfl (by decide) ?_
          refine g_iinc (v := (x2 + (-1))) B d_X7_lastActs_49 rfl rfl (by decide) ?_
          refine g_goto (tgt := 7) B d_X7_lastActs_52 (by decide) ?_
          exact g_cut rfl (ih ((x1 * 3) + 1) (x2 + (-1)) h)
      · refine g_iconst (v := 0) B d_X7_lastActs_34 (by decide) ?_
        refine g_goto (tgt := 47) B d_X7_lastActs_35 (by decide) ?_
        refine g_iadd B d_X7_lastActs_47 ?_
        refine g_istore_n B d_X7_lastActs_48 rfl (by decide) ?_
        refine g_iinc (v := (x2 + (-1))) B d_X7_lastActs_49 rfl rfl (by decide) ?_
        refine g_goto (tgt := 7) B d_X7_lastActs_52 (by decide) ?_
        exact g_cut rfl (ih ((x1 * 3) + 0) (x2 + (-1)) h)
set_option maxRecDepth 20000 in
theorem t_X7_lastActs {Z : q_Z} {l : Launch} (N : Nat) (a0 : Nat) (h0 : q_Wk a0) (σ : q_S) {r : Int32} (h : f_X7_lastActs N a0 σ = some r) : q_M Z l y_X7_lastActs prog_9_method_6_code 4 (some .int) 1 [.ref (Z.1 a0)] σ (some (.int r)) σ := by
  refine q_met (by decide +kernel) (Nat.le_of_ble_eq_true rfl) (fun Γ hΓ B En => ?_)
  unfold f_X7_lastActs at h
  refine g_cut (lv' := [(0, .ref (Z.1 a0))]) rfl ?_
  refine g_iconst (v := 0) B d_X7_lastActs_0 (by decide) ?_
  refine g_istore_n B d_X7_lastActs_1 rfl (by decide) ?_
  refine g_aload_n B d_X7_lastActs_2 rfl rfl ?_
  refine g_getN (ci := 8) (k := 1) B d_X7_lastActs_3 q_in8 rfl (q_Wlt h0) ((q_cW h0) _ _) (by decide) w_WaterOthers_TripFinder_52 rfl rfl ?_
  refine g_istore_n B d_X7_lastActs_6 rfl (by decide) ?_
  exact g_cut rfl (t_X7_lastActs_7 B En N a0 h0 N 0 (σ.1 a0 1) h)

theorem w_WaterOthers_TripFinder_11 : Cond.fieldLink "WaterOthers$TripFinder" 11 "WaterOthers$TripFinder" "queue" "[I" ∈ q_tbl := q_mem 182 (by decide +kernel) (by decide +kernel)
theorem w_WaterOthers_TripFinder_15 : Cond.fieldLink "WaterOthers$TripFinder" 15 "WaterOthers$TripFinder" "metBits" "[I" ∈ q_tbl := q_mem 183 (by decide +kernel) (by decide +kernel)
theorem w_WaterOthers_TripFinder_46 : Cond.fieldLink "WaterOthers$TripFinder" 46 "WaterOthers$TripFinder" "queued" "I" ∈ q_tbl := q_mem 184 (by decide +kernel) (by decide +kernel)
theorem w_WaterOthers_TripFinder_78 : Cond.methodLinkNest "WaterOthers$TripFinder" 78 y_X9_isWithin "WaterOthers" ∈ q_nst := q_memN 512 (by decide +kernel) (by decide +kernel)
def f_X7_offer (a0 : Int32) (a1 : Int32) (a2 : Int32) (σ : q_S) : Option q_S :=
  if (f_X9_isWithin a0 0 4859) = 0 then (some σ)
  else (if (4860 : Int32) ≤ (σ.1 74 2) then (some σ)
    else (if ¬ (((a0 >>> (5 &&& 31)) : Int32) < 0 ∨ 152 ≤ ((a0 >>> (5 &&& 31)) : Int32).toNatClampNeg) then if ((σ.1 76 ((a0 >>> (5 &&& 31)) : Int32).toNatClampNeg) &&& (1 <<< ((a0 &&& 31) &&& 31))) = 0 then (if ¬ ((((q_w σ 76 ((a0 >>> (5 &&& 31)) : Int32).toNatClampNeg ((σ.1 76 ((a0 >>> (5 &&& 31)) : Int32).toNatClampNeg) ||| (1 <<< ((a0 &&& 31) &&& 31)))).1 74 2) : Int32) < 0 ∨ 4860 ≤ (((q_w σ 76 ((a0 >>> (5 &&& 31)) : Int32).toNatClampNeg ((σ.1 76 ((a0 >>> (5 &&& 31)) : Int32).toNatClampNeg) ||| (1 <<< ((a0 &&& 31) &&& 31)))).1 74 2) : Int32).toNatClampNeg) then some (q_w (q_w (q_w σ 76 ((a0 >>> (5 &&& 31)) : Int32).toNatClampNeg ((σ.1 76 ((a0 >>> (5 &&& 31)) : Int32).toNatClampNeg) ||| (1 <<< ((a0 &&& 31) &&& 31)))) 75 (((q_w σ 76 ((a0 >>> (5 &&& 31)) : Int32).toNatClampNeg ((σ.1 76 ((a0 >>> (5 &&& 31)) : Int32).toNatClampNeg) ||| (1 <<< ((a0 &&& 31) &&& 31)))).1 74 2) : Int32).toNatClampNeg ((a0 ||| (a1 <<< (13 &&& 31))) ||| (a2 <<< (15 &&& 31)))) 74 2 (((q_w (q_w σ 76 ((a0 >>> (5 &&& 31)) : Int32).toNatClampNeg ((σ.1 76 ((a0 >>> (5 &&& 31)) : Int32).toNatClampNeg) ||| (1 <<< ((a0 &&& 31) &&& 31)))) 75 (((q_w σ 76 ((a0 >>> (5 &&& 31)) : Int32).toNatClampNeg ((σ.1 76 ((a0 >>> (5 &&& 31)) : Int32).toNatClampNeg) ||| (1 <<< ((a0 &&& 31) &&& 31)))).1 74 2) : Int32).toNatClampNeg ((a0 ||| (a1 <<< (13 &&& 31))) ||| (a2 <<< (15 &&& 31)))).1 74 2) + 1)) else none)
      else (some σ) else none))
set_option maxRecDepth 20000 in
theorem t_X7_offer {Z : q_Z} {l : Launch} (a0 : Int32) (a1 : Int32) (a2 : Int32)  (σ : q_S) {σ' : q_S} (h : f_X7_offer a0 a1 a2 σ = some σ') : q_M Z l y_X7_offer prog_9_method_5_code 5 none 2 [.ref (Z.1 74), .int a0, .int a1, .int a2] σ none σ' := by
  refine q_met (by decide +kernel) (Nat.le_of_ble_eq_true rfl) (fun Γ hΓ B En => ?_)
  unfold f_X7_offer at h
  refine g_cut (lv' := [(0, .ref (Z.1 74)), (1, .int a0), (2, .int a1), (3, .int a2)]) rfl ?_
  refine g_iconst (v := 1) B d_X7_offer_0 (by decide) ?_
  refine g_iload_n B d_X7_offer_1 rfl rfl ?_
  refine g_bipush (v := 31) B d_X7_offer_2 (by decide) ?_
  refine g_iand B d_X7_offer_4 ?_
  refine g_ishl B d_X7_offer_5 ?_
  refine g_istore B d_X7_offer_6 (by decide) ?_
  refine g_iload_n B d_X7_offer_8 rfl rfl ?_
  refine g_iconst (v := 0) B d_X7_offer_9 (by decide) ?_
  refine g_sipush (v := 4859) B d_X7_offer_10 (by decide) ?_
  refine g_callSN (As := [.int a0, .int 0, .int 4859]) (rest := []) B d_X7_offer_13 (t_X9_isWithin a0 0 4859 σ rfl) m_X9_isWithin w_WaterOthers_TripFinder_78 rfl rfl (Nat.le_of_ble_eq_true rfl) (by omega) (by decide) ?_
  refine g_if_eq (tgt := 43) B d_X7_offer_16 (by decide) h (fun h => ?_) (fun h => ?_)
  · obtain rfl := q_po h
    exact g_vret B En d_X7_offer_43
  · refine g_aload_n B d_X7_offer_19 rfl rfl ?_
    refine g_get (ci := 7) (k := 2) B d_X7_offer_20 q_in7 rfl (by decide) rfl (by decide) w_WaterOthers_TripFinder_46 rfl rfl ?_
    refine g_sipush (v := 4860) B d_X7_offer_23 (by decide) ?_
    refine g_icmp_ge (tgt := 43) B d_X7_offer_26 (by decide) h (fun h => ?_) (fun h => ?_)
    · obtain rfl := q_po h
      exact g_vret B En d_X7_offer_43
    · refine g_aload_n B d_X7_offer_29 rfl rfl ?_
      refine g_get (ci := 7) (k := 1) (v := .ref (Z.1 76)) B d_X7_offer_30 q_in7 rfl (by decide) rfl (by decide) w_WaterOthers_TripFinder_15 rfl rfl ?_
      refine g_iload_n B d_X7_offer_33 rfl rfl ?_
      refine g_iconst (v := 5) B d_X7_offer_34 (by decide) ?_
      refine g_ishr B d_X7_offer_35 ?_
      obtain ⟨h36, h⟩ := q_chk h
      refine g_iald B d_X7_offer_36 (by decide) (fun _ _ => rfl) h36 ?_
      refine g_iload B d_X7_offer_37 rfl ?_
      refine g_iand B d_X7_offer_39 ?_
      refine g_if_eq (tgt := 44) B d_X7_offer_40 (by decide) h (fun h => ?_) (fun h => ?_)
      · refine g_aload_n B d_X7_offer_44 rfl rfl ?_
        refine g_get (ci := 7) (k := 1) (v := .ref (Z.1 76)) B d_X7_offer_45 q_in7 rfl (by decide) rfl (by decide) w_WaterOthers_TripFinder_15 rfl rfl ?_
        refine g_iload_n B d_X7_offer_48 rfl rfl ?_
        refine g_iconst (v := 5) B d_X7_offer_49 (by decide) ?_
        refine g_ishr B d_X7_offer_50 ?_
        refine g_dup2 B d_X7_offer_51 rfl rfl ?_
        refine g_iald B d_X7_offer_52 (by decide) (fun _ _ => rfl) h36 ?_
        refine g_iload B d_X7_offer_53 rfl ?_
        refine g_ior B d_X7_offer_55 ?_
        refine g_iast B d_X7_offer_56 (by decide) (fun _ _ => rfl) h36 ?_
        refine g_aload_n B d_X7_offer_57 rfl rfl ?_
        refine g_get (ci := 7) (k := 0) (v := .ref (Z.1 75)) B d_X7_offer_58 q_in7 rfl (by decide) rfl (by decide) w_WaterOthers_TripFinder_11 rfl rfl ?_
        refine g_aload_n B d_X7_offer_61 rfl rfl ?_
        refine g_get (ci := 7) (k := 2) B d_X7_offer_62 q_in7 rfl (by decide) rfl (by decide) w_WaterOthers_TripFinder_46 rfl rfl ?_
        refine g_iload_n B d_X7_offer_65 rfl rfl ?_
        refine g_iload_n B d_X7_offer_66 rfl rfl ?_
        refine g_bipush (v := 13) B d_X7_offer_67 (by decide) ?_
        refine g_ishl B d_X7_offer_69 ?_
        refine g_ior B d_X7_offer_70 ?_
        refine g_iload_n B d_X7_offer_71 rfl rfl ?_
        refine g_bipush (v := 15) B d_X7_offer_72 (by decide) ?_
        refine g_ishl B d_X7_offer_74 ?_
        refine g_ior B d_X7_offer_75 ?_
        obtain ⟨h76, h⟩ := q_chk h
        refine g_iast B d_X7_offer_76 (by decide) (fun _ _ => rfl) h76 ?_
        refine g_aload_n B d_X7_offer_77 rfl rfl ?_
        refine g_dup B d_X7_offer_78 rfl ?_
        refine g_get (ci := 7) (k := 2) B d_X7_offer_79 q_in7 rfl (by decide) rfl (by decide) w_WaterOthers_TripFinder_46 rfl rfl ?_
        refine g_iconst (v := 1) B d_X7_offer_82 (by decide) ?_
        refine g_iadd B d_X7_offer_83 ?_
        refine g_put (ci := 7) (k := 2) (v := (((q_w (q_w σ 76 ((a0 >>> (5 &&& 31)) : Int32).toNatClampNeg ((σ.1 76 ((a0 >>> (5 &&& 31)) : Int32).toNatClampNeg) ||| (1 <<< ((a0 &&& 31) &&& 31)))) 75 (((q_w σ 76 ((a0 >>> (5 &&& 31)) : Int32).toNatClampNeg ((σ.1 76 ((a0 >>> (5 &&& 31)) : Int32).toNatClampNeg) ||| (1 <<< ((a0 &&& 31) &&& 31)))).1 74 2) : Int32).toNatClampNeg ((a0 ||| (a1 <<< (13 &&& 31))) ||| (a2 <<< (15 &&& 31)))).1 74 2) + 1)) (ty := .int) B d_X7_offer_84 q_in7 rfl q_yk7 q_nm7 (by decide) (fun _ _ => rfl) (by decide) w_WaterOthers_TripFinder_46 rfl rfl rfl rfl rfl (Nat.le_of_ble_eq_true rfl) (fun _ _ => rfl) ?_
        obtain rfl := q_po h
        exact g_vret B En d_X7_offer_87
      · obtain rfl := q_po h
        exact g_vret B En d_X7_offer_43

theorem w_WaterOthers_TripFinder_67 : Cond.fieldLink "WaterOthers$TripFinder" 67 "WaterOthers$TripFinder" "STEPS" "[I" ∈ q_tbl := q_mem 517 (by decide +kernel) (by decide +kernel)
def f_X7_lead_7 (N : Nat)  (x1 : Int32) (σ : q_S) : Nat → Int32 → Int32 → Int32 → Option Int32
  | 0, _, _, _ => none
  | n + 1, x2, x3, x4 =>
    if x1 ≤ x4 then (some x3)
    else (if ¬ (((q_rem x2 3) : Int32) < 0 ∨ 3 ≤ ((q_rem x2 3) : Int32).toNatClampNeg) then f_X7_lead_7 N x1 σ n (x2 / 3) (x3 + (q_s2 ((q_rem x2 3) : Int32).toNatClampNeg)) (x4 + 1) else none)
def f_X7_lead (N : Nat) (a0 : Int32) (a1 : Int32) (σ : q_S) : Option Int32 :=
  f_X7_lead_7 N a1 σ N a0 0 0
set_option maxRecDepth 20000 in
theorem t_X7_lead_7 {Z : q_Z} {Γ : q_C} {σ : q_S} {r : Int32} (B : q_B Z Γ prog_9_method_7_code "WaterOthers$TripFinder" 5 1) (En : q_E Z Γ (some .int) (some (.int r)) σ) (N : Nat)  (x1 : Int32)   : ∀ (n : Nat) (x2 : Int32) (x3 : Int32) (x4 : Int32), f_X7_lead_7 N x1 σ n x2 x3 x4 = some r → q_G Z Γ 5 σ 7 [(1, .int x1), (2, .int x2), (3, .int x3), (4, .int x4)] [] := by
  intro n
  induction n with
  | zero =>
    intro x2 x3 x4 h
    cases h
  | succ n ih =>
    intro x2 x3 x4 h
    unfold f_X7_lead_7 at h
    refine g_iload B d_X7_lead_7 rfl ?_
    refine g_iload_n B d_X7_lead_9 rfl rfl ?_
    refine g_icmp_ge (tgt := 33) B d_X7_lead_10 (by decide) h (fun h => ?_) (fun h => ?_)
    · refine g_iload_n B d_X7_lead_33 rfl rfl ?_
      obtain rfl := q_po h
      exact g_iret B En d_X7_lead_34
    · refine g_iload_n B d_X7_lead_13 rfl rfl ?_
      refine g_gs2 B d_X7_lead_14 w_WaterOthers_TripFinder_67 ?_
      refine g_iload_n B d_X7_lead_17 rfl rfl ?_
      refine g_iconst (v := 3) B d_X7_lead_18 (by decide) ?_
      refine g_irem B d_X7_lead_19 (by decide) ?_
      obtain ⟨h20, h⟩ := q_chk h
      refine g_gt2 B d_X7_lead_20 h20 ?_
      refine g_iadd B d_X7_lead_21 ?_
      refine g_istore_n B d_X7_lead_22 rfl (by decide) ?_
      refine g_iload_n B d_X7_lead_23 rfl rfl ?_
      refine g_iconst (v := 3) B d_X7_lead_24 (by decide) ?_
      refine g_idiv B d_X7_lead_25 (by decide) ?_
      refine g_istore_n B d_X7_lead_26 rfl (by decide) ?_
      refine g_iinc (v := (x4 + 1)) B d_X7_lead_27 rfl rfl (by decide) ?_
      refine g_goto (tgt := 7) B d_X7_lead_30 (by decide) ?_
      exact g_cut rfl (ih (x2 / 3) (x3 + (q_s2 ((q_rem x2 3) : Int32).toNatClampNeg)) (x4 + 1) h)
set_option maxRecDepth 20000 in
theorem t_X7_lead {Z : q_Z} {l : Launch} (N : Nat) (a0 : Int32) (a1 : Int32)  (σ : q_S) {r : Int32} (h : f_X7_lead N a0 a1 σ = some r) : q_M Z l y_X7_lead prog_9_method_7_code 5 (some .int) 1 [.int a0, .int a1] σ (some (.int r)) σ := by
  refine q_met (by decide +kernel) (Nat.le_of_ble_eq_true rfl) (fun Γ hΓ B En => ?_)
  unfold f_X7_lead at h
  refine g_cut (lv' := [(0, .int a0), (1, .int a1)]) rfl ?_
  refine g_iload_n B d_X7_lead_0 rfl rfl ?_
  refine g_istore_n B d_X7_lead_1 rfl (by decide) ?_
  refine g_iconst (v := 0) B d_X7_lead_2 (by decide) ?_
  refine g_istore_n B d_X7_lead_3 rfl (by decide) ?_
  refine g_iconst (v := 0) B d_X7_lead_4 (by decide) ?_
  refine g_istore B d_X7_lead_5 (by decide) ?_
  exact g_cut rfl (t_X7_lead_7 B En N a1 N a0 0 0 h)

theorem w_WaterOthers_TripFinder_18 : Cond.fieldLink "WaterOthers$TripFinder" 18 "WaterOthers$TripFinder" "acts" "I" ∈ q_tbl := q_mem 185 (by decide +kernel) (by decide +kernel)
theorem w_WaterOthers_TripFinder_22 : Cond.fieldLink "WaterOthers$TripFinder" 22 "WaterOthers$TripFinder" "first" "I" ∈ q_tbl := q_mem 187 (by decide +kernel) (by decide +kernel)
theorem w_WaterOthers_TripFinder_30 : Cond.methodLink "WaterOthers$TripFinder" 30 y_J9_abs_0f7a4 ∈ q_tbl := q_mem 497 (by decide +kernel) (by decide +kernel)
theorem w_WaterOthers_TripFinder_49 : Cond.fieldLink "WaterOthers$TripFinder" 49 "WaterOthers$TripFinder" "ROWS" "[I" ∈ q_tbl := q_mem 503 (by decide +kernel) (by decide +kernel)
theorem w_WaterOthers_TripFinder_59 : Cond.methodLink "WaterOthers$TripFinder" 59 y_X7_offer ∈ q_tbl := q_mem 508 (by decide +kernel) (by decide +kernel)
theorem w_WaterOthers_TripFinder_70 : Cond.methodLinkNest "WaterOthers$TripFinder" 70 y_X9_isCell "WaterOthers" ∈ q_nst := q_memN 519 (by decide +kernel) (by decide +kernel)
theorem w_WaterOthers_TripFinder_74 : Cond.methodLink "WaterOthers$TripFinder" 74 y_X7_lead ∈ q_tbl := q_mem 520 (by decide +kernel) (by decide +kernel)
def f_X7_tryWay_89 (N : Nat)  (x4 : Int32) (x6 : Int32) (x8 : Int32) (x9 : Int32) (x10 : Int32) (t0 : Int32) (σ : q_S) : Option q_S :=
  if x9 = x4 then (some (q_w (q_w σ 74 3 (x8 + 1)) 74 4 t0))
  else ((f_X7_offer ((x9 * x6) + x10) t0 (x8 + 1) σ).bind fun z130 =>
    some z130)
def f_X7_tryWay_74 (N : Nat)  (x1 : Int32) (x2 : Int32) (x4 : Int32) (x6 : Int32) (x8 : Int32) (x9 : Int32) (x10 : Int32) (σ : q_S) : Option q_S :=
  if x8 = 0 then (f_X7_tryWay_89 N x4 x6 x8 x9 x10 x2 σ)
  else (f_X7_tryWay_89 N x4 x6 x8 x9 x10 ((x1 >>> (13 &&& 31)) &&& 3) σ)
def f_X7_tryWay (N : Nat) (a0 : Int32) (a1 : Int32) (a2 : Int32) (a3 : Int32) (a4 : Int32) (σ : q_S) : Option q_S :=
  if ¬ ((a2 : Int32) < 0 ∨ 6 ≤ (a2 : Int32).toNatClampNeg) then if ¬ (q_s1 (a2 : Int32).toNatClampNeg) = 0 then if ¬ ((a1 : Int32) < 0 ∨ 3 ≤ (a1 : Int32).toNatClampNeg) then if (f_X9_isCell (((a0 &&& 8191) / (q_s1 (a2 : Int32).toNatClampNeg)) + (q_s2 (a1 : Int32).toNatClampNeg))) = 0 then (some σ)
  else (if a1 = 0 then (f_X7_tryWay_74 N a0 a1 a3 (q_s1 (a2 : Int32).toNatClampNeg) (a0 >>> (15 &&& 31)) (((a0 &&& 8191) / (q_s1 (a2 : Int32).toNatClampNeg)) + (q_s2 (a1 : Int32).toNatClampNeg)) (q_rem (((q_rem (a0 &&& 8191) (q_s1 (a2 : Int32).toNatClampNeg)) * 3) + a1) (q_s1 (a2 : Int32).toNatClampNeg)) σ)
    else ((f_X7_lead N (q_rem (((q_rem (a0 &&& 8191) (q_s1 (a2 : Int32).toNatClampNeg)) * 3) + a1) (q_s1 (a2 : Int32).toNatClampNeg)) a2 σ).bind fun z62 =>
      if (f_J9_abs_0f7a4 z62) ≤ a4 then (f_X7_tryWay_74 N a0 a1 a3 (q_s1 (a2 : Int32).toNatClampNeg) (a0 >>> (15 &&& 31)) (((a0 &&& 8191) / (q_s1 (a2 : Int32).toNatClampNeg)) + (q_s2 (a1 : Int32).toNatClampNeg)) (q_rem (((q_rem (a0 &&& 8191) (q_s1 (a2 : Int32).toNatClampNeg)) * 3) + a1) (q_s1 (a2 : Int32).toNatClampNeg)) σ)
      else (some σ))) else none else none else none
set_option maxRecDepth 20000 in
theorem t_X7_tryWay_89 {Z : q_Z} {Γ : q_C} {σ' : q_S} (B : q_B Z Γ prog_9_method_4_code "WaterOthers$TripFinder" 12 3) (En : q_E Z Γ none none σ') (N : Nat)  (x4 : Int32) (x6 : Int32) (x8 : Int32) (x9 : Int32) (x10 : Int32) (t0 : Int32)  (σ : q_S)  (h : f_X7_tryWay_89 N x4 x6 x8 x9 x10 t0 σ = some σ') : q_G Z Γ 12 σ 89 [(0, .ref (Z.1 74)), (4, .int x4), (6, .int x6), (8, .int x8), (9, .int x9), (10, .int x10)] [.int t0] := by
  unfold f_X7_tryWay_89 at h
  refine g_istore B d_X7_tryWay_89 (by decide) ?_
  refine g_iload B d_X7_tryWay_91 rfl ?_
  refine g_iload B d_X7_tryWay_93 rfl ?_
  refine g_icmp_ne (tgt := 115) B d_X7_tryWay_95 (by decide) h (fun h => ?_) (fun h => ?_)
  · refine g_aload_n B d_X7_tryWay_115 rfl rfl ?_
    refine g_iload B d_X7_tryWay_116 rfl ?_
    refine g_iload B d_X7_tryWay_118 rfl ?_
    refine g_imul B d_X7_tryWay_120 ?_
    refine g_iload B d_X7_tryWay_121 rfl ?_
    refine g_iadd B d_X7_tryWay_123 ?_
    refine g_iload B d_X7_tryWay_124 rfl ?_
    refine g_iload B d_X7_tryWay_126 rfl ?_
    refine g_iconst (v := 1) B d_X7_tryWay_128 (by decide) ?_
    refine g_iadd B d_X7_tryWay_129 ?_
    obtain ⟨z130, g130, h⟩ := q_bind h
    refine g_callV (p0 := 74) (ci := 7) (As := [.int ((x9 * x6) + x10), .int t0, .int (x8 + 1)]) (rest := []) B d_X7_tryWay_130 (t_X7_offer ((x9 * x6) + x10) t0 (x8 + 1) σ g130) m_X7_offer w_WaterOthers_TripFinder_59 (by decide) rfl rfl rfl rfl (Nat.le_of_ble_eq_true rfl) (by omega) (by decide) ?_
    obtain rfl := q_po h
    exact g_vret B En d_X7_tryWay_133
  · refine g_aload_n B d_X7_tryWay_98 rfl rfl ?_
    refine g_iload B d_X7_tryWay_99 rfl ?_
    refine g_iconst (v := 1) B d_X7_tryWay_101 (by decide) ?_
    refine g_iadd B d_X7_tryWay_102 ?_
    refine g_put (ci := 7) (k := 3) (v := (x8 + 1)) (ty := .int) B d_X7_tryWay_103 q_in7 rfl q_yk7 q_nm7 (by decide) (fun _ _ => rfl) (by decide) w_WaterOthers_TripFinder_18 rfl rfl rfl rfl rfl (Nat.le_of_ble_eq_true rfl) (fun _ _ => rfl) ?_
    refine g_aload_n B d_X7_tryWay_106 rfl rfl ?_
    refine g_iload B d_X7_tryWay_107 rfl ?_
    refine g_put (ci := 7) (k := 4) (v := t0) (ty := .int) B d_X7_tryWay_109 q_in7 rfl q_yk7 q_nm7 (by decide) (fun _ _ => rfl) (by decide) w_WaterOthers_TripFinder_22 rfl rfl rfl rfl rfl (Nat.le_of_ble_eq_true rfl) (fun _ _ => rfl) ?_
    refine g_goto (tgt := 133) B d_X7_tryWay_112 (by decide) ?_
    obtain rfl := q_po h
    exact g_vret B En d_X7_tryWay_133
set_option maxRecDepth 20000 in
theorem t_X7_tryWay_74 {Z : q_Z} {Γ : q_C} {σ' : q_S} (B : q_B Z Γ prog_9_method_4_code "WaterOthers$TripFinder" 12 3) (En : q_E Z Γ none none σ') (N : Nat)  (x1 : Int32) (x2 : Int32) (x4 : Int32) (x6 : Int32) (x8 : Int32) (x9 : Int32) (x10 : Int32)  (σ : q_S)  (h : f_X7_tryWay_74 N x1 x2 x4 x6 x8 x9 x10 σ = some σ') : q_G Z Γ 12 σ 74 [(0, .ref (Z.1 74)), (1, .int x1), (2, .int x2), (4, .int x4), (6, .int x6), (8, .int x8), (9, .int x9), (10, .int x10)] [] := by
  unfold f_X7_tryWay_74 at h
  refine g_iload B d_X7_tryWay_74 rfl ?_
  refine g_if_ne (tgt := 83) B d_X7_tryWay_76 (by decide) h (fun h => ?_) (fun h => ?_)
  · refine g_iload_n B d_X7_tryWay_83 rfl rfl ?_
    refine g_bipush (v := 13) B d_X7_tryWay_84 (by decide) ?_
    refine g_ishr B d_X7_tryWay_86 ?_
    refine g_iconst (v := 3) B d_X7_tryWay_87 (by decide) ?_
    refine g_iand B d_X7_tryWay_88 ?_
    exact g_cut rfl (t_X7_tryWay_89 B En N x4 x6 x8 x9 x10 ((x1 >>> (13 &&& 31)) &&& 3) σ h)
  · refine g_iload_n B d_X7_tryWay_79 rfl rfl ?_
    refine g_goto (tgt := 89) B d_X7_tryWay_80 (by decide) ?_
    exact g_cut rfl (t_X7_tryWay_89 B En N x4 x6 x8 x9 x10 x2 σ h)
set_option maxRecDepth 20000 in
theorem t_X7_tryWay {Z : q_Z} {l : Launch} (N : Nat) (a0 : Int32) (a1 : Int32) (a2 : Int32) (a3 : Int32) (a4 : Int32)  (σ : q_S) {σ' : q_S} (h : f_X7_tryWay N a0 a1 a2 a3 a4 σ = some σ') : q_M Z l y_X7_tryWay prog_9_method_4_code 12 none 3 [.ref (Z.1 74), .int a0, .int a1, .int a2, .int a3, .int a4] σ none σ' := by
  refine q_met (by decide +kernel) (Nat.le_of_ble_eq_true rfl) (fun Γ hΓ B En => ?_)
  unfold f_X7_tryWay at h
  refine g_cut (lv' := [(0, .ref (Z.1 74)), (1, .int a0), (2, .int a1), (3, .int a2), (4, .int a3), (5, .int a4)]) rfl ?_
  refine g_gs1 B d_X7_tryWay_0 w_WaterOthers_TripFinder_49 ?_
  refine g_iload_n B d_X7_tryWay_3 rfl rfl ?_
  obtain ⟨h4, h⟩ := q_chk h
  refine g_gt1 B d_X7_tryWay_4 h4 ?_
  refine g_istore B d_X7_tryWay_5 (by decide) ?_
  refine g_iload_n B d_X7_tryWay_7 rfl rfl ?_
  refine g_sipush (v := 8191) B d_X7_tryWay_8 (by decide) ?_
  refine g_iand B d_X7_tryWay_11 ?_
  refine g_istore B d_X7_tryWay_12 (by decide) ?_
  refine g_iload_n B d_X7_tryWay_14 rfl rfl ?_
  refine g_bipush (v := 15) B d_X7_tryWay_15 (by decide) ?_
  refine g_ishr B d_X7_tryWay_17 ?_
  refine g_istore B d_X7_tryWay_18 (by decide) ?_
  refine g_iload B d_X7_tryWay_20 rfl ?_
  refine g_iload B d_X7_tryWay_22 rfl ?_
  obtain ⟨h24, h⟩ := q_chk h
  refine g_idiv B d_X7_tryWay_24 h24 ?_
  refine g_gs2 B d_X7_tryWay_25 w_WaterOthers_TripFinder_67 ?_
  refine g_iload_n B d_X7_tryWay_28 rfl rfl ?_
  obtain ⟨h29, h⟩ := q_chk h
  refine g_gt2 B d_X7_tryWay_29 h29 ?_
  refine g_iadd B d_X7_tryWay_30 ?_
  refine g_istore B d_X7_tryWay_31 (by decide) ?_
  refine g_iload B d_X7_tryWay_33 rfl ?_
  refine g_iload B d_X7_tryWay_35 rfl ?_
  refine g_irem B d_X7_tryWay_37 h24 ?_
  refine g_iconst (v := 3) B d_X7_tryWay_38 (by decide) ?_
  refine g_imul B d_X7_tryWay_39 ?_
  refine g_iload_n B d_X7_tryWay_40 rfl rfl ?_
  refine g_iadd B d_X7_tryWay_41 ?_
  refine g_iload B d_X7_tryWay_42 rfl ?_
  refine g_irem B d_X7_tryWay_44 h24 ?_
  refine g_istore B d_X7_tryWay_45 (by decide) ?_
  refine g_iload B d_X7_tryWay_47 rfl ?_
  refine g_callSN (As := [.int (((a0 &&& 8191) / (q_s1 (a2 : Int32).toNatClampNeg)) + (q_s2 (a1 : Int32).toNatClampNeg))]) (rest := []) B d_X7_tryWay_49 (t_X9_isCell (((a0 &&& 8191) / (q_s1 (a2 : Int32).toNatClampNeg)) + (q_s2 (a1 : Int32).toNatClampNeg)) σ rfl) m_X9_isCell w_WaterOthers_TripFinder_70 rfl rfl (Nat.le_of_ble_eq_true rfl) (by omega) (by decide) ?_
  refine g_if_eq (tgt := 73) B d_X7_tryWay_52 (by decide) h (fun h => ?_) (fun h => ?_)
  · obtain rfl := q_po h
    exact g_vret B En d_X7_tryWay_73
  · refine g_iload_n B d_X7_tryWay_55 rfl rfl ?_
    refine g_if_eq (tgt := 74) B d_X7_tryWay_56 (by decide) h (fun h => ?_) (fun h => ?_)
    · exact g_cut rfl (t_X7_tryWay_74 B En N a0 a1 a3 (q_s1 (a2 : Int32).toNatClampNeg) (a0 >>> (15 &&& 31)) (((a0 &&& 8191) / (q_s1 (a2 : Int32).toNatClampNeg)) + (q_s2 (a1 : Int32).toNatClampNeg)) (q_rem (((q_rem (a0 &&& 8191) (q_s1 (a2 : Int32).toNatClampNeg)) * 3) + a1) (q_s1 (a2 : Int32).toNatClampNeg)) σ h)
    · refine g_iload B d_X7_tryWay_59 rfl ?_
      refine g_iload_n B d_X7_tryWay_61 rfl rfl ?_
      obtain ⟨z62, g62, h⟩ := q_bind h
      refine g_callS (As := [.int (q_rem (((q_rem (a0 &&& 8191) (q_s1 (a2 : Int32).toNatClampNeg)) * 3) + a1) (q_s1 (a2 : Int32).toNatClampNeg)), .int a2]) (rest := []) B d_X7_tryWay_62 (t_X7_lead N (q_rem (((q_rem (a0 &&& 8191) (q_s1 (a2 : Int32).toNatClampNeg)) * 3) + a1) (q_s1 (a2 : Int32).toNatClampNeg)) a2 σ g62) m_X7_lead w_WaterOthers_TripFinder_74 rfl rfl (Nat.le_of_ble_eq_true rfl) (by omega) (by decide) ?_
      refine g_callS (As := [.int z62]) (rest := []) B d_X7_tryWay_65 (t_J9_abs_0f7a4 z62 σ rfl) m_J9_abs_0f7a4 w_WaterOthers_TripFinder_30 rfl rfl (Nat.le_of_ble_eq_true rfl) (by omega) (by decide) ?_
      refine g_iload B d_X7_tryWay_68 rfl ?_
      refine g_icmp_le (tgt := 74) B d_X7_tryWay_70 (by decide) h (fun h => ?_) (fun h => ?_)
      · exact g_cut rfl (t_X7_tryWay_74 B En N a0 a1 a3 (q_s1 (a2 : Int32).toNatClampNeg) (a0 >>> (15 &&& 31)) (((a0 &&& 8191) / (q_s1 (a2 : Int32).toNatClampNeg)) + (q_s2 (a1 : Int32).toNatClampNeg)) (q_rem (((q_rem (a0 &&& 8191) (q_s1 (a2 : Int32).toNatClampNeg)) * 3) + a1) (q_s1 (a2 : Int32).toNatClampNeg)) σ h)
      · obtain rfl := q_po h
        exact g_vret B En d_X7_tryWay_73

theorem w_WaterOthers_TripFinder_40 : Cond.methodLink "WaterOthers$TripFinder" 40 y_J7_fill_53178 ∈ q_tbl := q_mem 502 (by decide +kernel) (by decide +kernel)
theorem w_WaterOthers_TripFinder_55 : Cond.methodLink "WaterOthers$TripFinder" 55 y_X7_lastActs ∈ q_tbl := q_mem 505 (by decide +kernel) (by decide +kernel)
theorem w_WaterOthers_TripFinder_63 : Cond.methodLink "WaterOthers$TripFinder" 63 y_X7_tryWay ∈ q_tbl := q_mem 513 (by decide +kernel) (by decide +kernel)
def f_X7_search_75 (N : Nat) (k46 : Int32 → q_S → Option q_S) (p1 : Nat) (x2 : Int32) (x3 : Int32) (x5 : Int32)  : Nat → Int32 → q_S → Option q_S
  | 0, _, _ => none
  | n + 1, x6, σ =>
    if (3 : Int32) ≤ x6 then (k46 (x5 + 1) σ)
    else (if (σ.1 74 3) = (-6) then (if ¬ ((x5 : Int32) < 0 ∨ 4860 ≤ (x5 : Int32).toNatClampNeg) then (f_X7_tryWay N (σ.1 75 (x5 : Int32).toNatClampNeg) x6 (σ.1 p1 1) x2 x3 σ).bind fun z106 =>
        f_X7_search_75 N k46 p1 x2 x3 x5 n (x6 + 1) z106 else none)
      else (k46 (x5 + 1) σ))
def f_X7_search_46 (N : Nat)  (p1 : Nat) (x2 : Int32) (x3 : Int32)  : Nat → Int32 → q_S → Option q_S
  | 0, _, _ => none
  | n + 1, x5, σ =>
    if (4860 : Int32) ≤ x5 then (some σ)
    else (if (σ.1 74 2) ≤ x5 then (some σ)
      else (if (σ.1 74 3) = (-6) then (f_X7_search_75 N (fun x5 σ => f_X7_search_46 N p1 x2 x3 n x5 σ) p1 x2 x3 x5 N 0 σ)
        else (some σ)))
def f_X7_search (N : Nat) (a0 : Nat) (a1 : Int32) (a2 : Int32) (σ : q_S) : Option q_S :=
  (f_J7_fill_53178 N 76 152 0 σ).bind fun z5 =>
  if ¬ ((((q_w z5 74 2 0).1 a0 1) : Int32) < 0 ∨ 6 ≤ (((q_w z5 74 2 0).1 a0 1) : Int32).toNatClampNeg) then (f_X7_lastActs N a0 (q_w z5 74 2 0)).bind fun z34 =>
  (f_X7_offer ((((q_w z5 74 2 0).1 (a0 + 6) (0 : Int32).toNatClampNeg) * (q_s1 (((q_w z5 74 2 0).1 a0 1) : Int32).toNatClampNeg)) + z34) 0 0 (q_w z5 74 2 0)).bind fun z40 =>
  f_X7_search_46 N a0 a1 a2 N 0 z40 else none
set_option maxRecDepth 20000 in
theorem t_X7_search_75 {Z : q_Z} {Γ : q_C} {σ' : q_S} (B : q_B Z Γ prog_9_method_3_code "WaterOthers$TripFinder" 7 4) (En : q_E Z Γ none none σ') (N : Nat) (k46 : Int32 → q_S → Option q_S) (p1 : Nat) (x2 : Int32) (x3 : Int32) (x5 : Int32) (K46 : ∀ (x5 : Int32) (σ : q_S), k46 x5 σ = some σ' → q_G Z Γ 7 σ 46 [(0, .ref (Z.1 74)), (1, .ref (Z.1 p1)), (2, .int x2), (3, .int x3), (5, .int x5)] []) (hp1 : q_Wk p1) : ∀ (n : Nat) (x6 : Int32) (σ : q_S), f_X7_search_75 N k46 p1 x2 x3 x5 n x6 σ = some σ' → q_G Z Γ 7 σ 75 [(0, .ref (Z.1 74)), (1, .ref (Z.1 p1)), (2, .int x2), (3, .int x3), (5, .int x5), (6, .int x6)] [] := by
  intro n
  induction n with
  | zero =>
    intro x6 σ h
    cases h
  | succ n ih =>
    intro x6 σ h
    unfold f_X7_search_75 at h
    refine g_iload B d_X7_search_75 rfl ?_
    refine g_iconst (v := 3) B d_X7_search_77 (by decide) ?_
    refine g_icmp_ge (tgt := 115) B d_X7_search_78 (by decide) h (fun h => ?_) (fun h => ?_)
    · refine g_iinc (v := (x5 + 1)) B d_X7_search_115 rfl rfl (by decide) ?_
      refine g_goto (tgt := 46) B d_X7_search_118 (by decide) ?_
      exact g_cut rfl (K46 (x5 + 1) σ h)
    · refine g_aload_n B d_X7_search_81 rfl rfl ?_
      refine g_get (ci := 7) (k := 3) B d_X7_search_82 q_in7 rfl (by decide) rfl (by decide) w_WaterOthers_TripFinder_18 rfl rfl ?_
      refine g_bipush (v := (-6)) B d_X7_search_85 (by decide) ?_
      refine g_icmp_ne (tgt := 115) B d_X7_search_87 (by decide) h (fun h => ?_) (fun h => ?_)
      · refine g_iinc (v := (x5 + 1)) B d_X7_search_115 rfl rfl (by decide) ?_
        refine g_goto (tgt := 46) B d_X7_search_118 (by decide) ?_
        exact g_cut rfl (K46 (x5 + 1) σ h)
      · refine g_aload_n B d_X7_search_90 rfl rfl ?_
        refine g_aload_n B d_X7_search_91 rfl rfl ?_
        refine g_get (ci := 7) (k := 0) (v := .ref (Z.1 75)) B d_X7_search_92 q_in7 rfl (by decide) rfl (by decide) w_WaterOthers_TripFinder_11 rfl rfl ?_
        refine g_iload B d_X7_search_95 rfl ?_
        obtain ⟨h97, h⟩ := q_chk h
        refine g_iald B d_X7_search_97 (by decide) (fun _ _ => rfl) h97 ?_
        refine g_iload B d_X7_search_98 rfl ?_
        refine g_aload_n B d_X7_search_100 rfl rfl ?_
        refine g_getN (ci := 8) (k := 1) B d_X7_search_101 q_in8 rfl (q_Wlt hp1) ((q_cW hp1) _ _) (by decide) w_WaterOthers_TripFinder_52 rfl rfl ?_
        refine g_iload_n B d_X7_search_104 rfl rfl ?_
        refine g_iload_n B d_X7_search_105 rfl rfl ?_
        obtain ⟨z106, g106, h⟩ := q_bind h
        refine g_callV (p0 := 74) (ci := 7) (As := [.int (σ.1 75 (x5 : Int32).toNatClampNeg), .int x6, .int (σ.1 p1 1), .int x2, .int x3]) (rest := []) B d_X7_search_106 (t_X7_tryWay N (σ.1 75 (x5 : Int32).toNatClampNeg) x6 (σ.1 p1 1) x2 x3 σ g106) m_X7_tryWay w_WaterOthers_TripFinder_63 (by decide) rfl rfl rfl rfl (Nat.le_of_ble_eq_true rfl) (by omega) (by decide) ?_
        refine g_iinc (v := (x6 + 1)) B d_X7_search_109 rfl rfl (by decide) ?_
        refine g_goto (tgt := 75) B d_X7_search_112 (by decide) ?_
        exact g_cut rfl (ih (x6 + 1) z106 h)
set_option maxRecDepth 20000 in
theorem t_X7_search_46 {Z : q_Z} {Γ : q_C} {σ' : q_S} (B : q_B Z Γ prog_9_method_3_code "WaterOthers$TripFinder" 7 4) (En : q_E Z Γ none none σ') (N : Nat)  (p1 : Nat) (x2 : Int32) (x3 : Int32)  (hp1 : q_Wk p1) : ∀ (n : Nat) (x5 : Int32) (σ : q_S), f_X7_search_46 N p1 x2 x3 n x5 σ = some σ' → q_G Z Γ 7 σ 46 [(0, .ref (Z.1 74)), (1, .ref (Z.1 p1)), (2, .int x2), (3, .int x3), (5, .int x5)] [] := by
  intro n
  induction n with
  | zero =>
    intro x5 σ h
    cases h
  | succ n ih =>
    intro x5 σ h
    unfold f_X7_search_46 at h
    refine g_iload B d_X7_search_46 rfl ?_
    refine g_sipush (v := 4860) B d_X7_search_48 (by decide) ?_
    refine g_icmp_ge (tgt := 121) B d_X7_search_51 (by decide) h (fun h => ?_) (fun h => ?_)
    · obtain rfl := q_po h
      exact g_vret B En d_X7_search_121
    · refine g_iload B d_X7_search_54 rfl ?_
      refine g_aload_n B d_X7_search_56 rfl rfl ?_
      refine g_get (ci := 7) (k := 2) B d_X7_search_57 q_in7 rfl (by decide) rfl (by decide) w_WaterOthers_TripFinder_46 rfl rfl ?_
      refine g_icmp_ge (tgt := 121) B d_X7_search_60 (by decide) h (fun h => ?_) (fun h => ?_)
      · obtain rfl := q_po h
        exact g_vret B En d_X7_search_121
      · refine g_aload_n B d_X7_search_63 rfl rfl ?_
        refine g_get (ci := 7) (k := 3) B d_X7_search_64 q_in7 rfl (by decide) rfl (by decide) w_WaterOthers_TripFinder_18 rfl rfl ?_
        refine g_bipush (v := (-6)) B d_X7_search_67 (by decide) ?_
        refine g_icmp_ne (tgt := 121) B d_X7_search_69 (by decide) h (fun h => ?_) (fun h => ?_)
        · obtain rfl := q_po h
          exact g_vret B En d_X7_search_121
        · refine g_iconst (v := 0) B d_X7_search_72 (by decide) ?_
          refine g_istore B d_X7_search_73 (by decide) ?_
          exact g_cut rfl (t_X7_search_75 B En N (fun x5 σ => f_X7_search_46 N p1 x2 x3 n x5 σ) p1 x2 x3 x5 (ih) hp1 N 0 σ h)
set_option maxRecDepth 20000 in
theorem t_X7_search {Z : q_Z} {l : Launch} (N : Nat) (a0 : Nat) (a1 : Int32) (a2 : Int32) (h0 : q_Wk a0) (σ : q_S) {σ' : q_S} (h : f_X7_search N a0 a1 a2 σ = some σ') : q_M Z l y_X7_search prog_9_method_3_code 7 none 4 [.ref (Z.1 74), .ref (Z.1 a0), .int a1, .int a2] σ none σ' := by
  refine q_met (by decide +kernel) (Nat.le_of_ble_eq_true rfl) (fun Γ hΓ B En => ?_)
  unfold f_X7_search at h
  refine g_cut (lv' := [(0, .ref (Z.1 74)), (1, .ref (Z.1 a0)), (2, .int a1), (3, .int a2)]) rfl ?_
  refine g_aload_n B d_X7_search_0 rfl rfl ?_
  refine g_get (ci := 7) (k := 1) (v := .ref (Z.1 76)) B d_X7_search_1 q_in7 rfl (by decide) rfl (by decide) w_WaterOthers_TripFinder_15 rfl rfl ?_
  refine g_iconst (v := 0) B d_X7_search_4 (by decide) ?_
  obtain ⟨z5, g5, h⟩ := q_bind h
  refine g_callS (As := [.ref (Z.1 76), .int 0]) (rest := []) B d_X7_search_5 (t_J7_fill_53178 N 76 152 0 ⟨(by decide), (fun _ _ => rfl)⟩ σ g5) m_J7_fill_53178 w_WaterOthers_TripFinder_40 rfl rfl (Nat.le_of_ble_eq_true rfl) (by omega) (by decide) ?_
  refine g_aload_n B d_X7_search_8 rfl rfl ?_
  refine g_iconst (v := 0) B d_X7_search_9 (by decide) ?_
  refine g_put (ci := 7) (k := 2) (v := 0) (ty := .int) B d_X7_search_10 q_in7 rfl q_yk7 q_nm7 (by decide) (fun _ _ => rfl) (by decide) w_WaterOthers_TripFinder_46 rfl rfl rfl rfl rfl (Nat.le_of_ble_eq_true rfl) (fun _ _ => rfl) ?_
  refine g_gs1 B d_X7_search_13 w_WaterOthers_TripFinder_49 ?_
  refine g_aload_n B d_X7_search_16 rfl rfl ?_
  refine g_getN (ci := 8) (k := 1) B d_X7_search_17 q_in8 rfl (q_Wlt h0) ((q_cW h0) _ _) (by decide) w_WaterOthers_TripFinder_52 rfl rfl ?_
  obtain ⟨h20, h⟩ := q_chk h
  refine g_gt1 B d_X7_search_20 h20 ?_
  refine g_istore B d_X7_search_21 (by decide) ?_
  refine g_aload_n B d_X7_search_23 rfl rfl ?_
  refine g_aload_n B d_X7_search_24 rfl rfl ?_
  refine g_getN (ci := 8) (k := 5) (v := .ref (Z.1 (a0 + 6))) B d_X7_search_25 q_in8 rfl (q_Wlt h0) ((q_cW h0) _ _) (by decide) w_WaterOthers_TripFinder_25 rfl rfl ?_
  refine g_iconst (v := 0) B d_X7_search_28 (by decide) ?_
  refine g_iald B d_X7_search_29 (q_WAlt h0) (q_cWA h0) (by decide) ?_
  refine g_iload B d_X7_search_30 rfl ?_
  refine g_imul B d_X7_search_32 ?_
  refine g_aload_n B d_X7_search_33 rfl rfl ?_
  obtain ⟨z34, g34, h⟩ := q_bind h
  refine g_callS (As := [.ref (Z.1 a0)]) (rest := [.int (((q_w z5 74 2 0).1 (a0 + 6) (0 : Int32).toNatClampNeg) * (q_s1 (((q_w z5 74 2 0).1 a0 1) : Int32).toNatClampNeg)), .ref (Z.1 74)]) B d_X7_search_34 (t_X7_lastActs N a0 h0 (q_w z5 74 2 0) g34) m_X7_lastActs w_WaterOthers_TripFinder_55 rfl rfl (Nat.le_of_ble_eq_true rfl) (by omega) (by decide) ?_
  refine g_iadd B d_X7_search_37 ?_
  refine g_iconst (v := 0) B d_X7_search_38 (by decide) ?_
  refine g_iconst (v := 0) B d_X7_search_39 (by decide) ?_
  obtain ⟨z40, g40, h⟩ := q_bind h
  refine g_callV (p0 := 74) (ci := 7) (As := [.int ((((q_w z5 74 2 0).1 (a0 + 6) (0 : Int32).toNatClampNeg) * (q_s1 (((q_w z5 74 2 0).1 a0 1) : Int32).toNatClampNeg)) + z34), .int 0, .int 0]) (rest := []) B d_X7_search_40 (t_X7_offer ((((q_w z5 74 2 0).1 (a0 + 6) (0 : Int32).toNatClampNeg) * (q_s1 (((q_w z5 74 2 0).1 a0 1) : Int32).toNatClampNeg)) + z34) 0 0 (q_w z5 74 2 0) g40) m_X7_offer w_WaterOthers_TripFinder_59 (by decide) rfl rfl rfl rfl (Nat.le_of_ble_eq_true rfl) (by omega) (by decide) ?_
  refine g_iconst (v := 0) B d_X7_search_43 (by decide) ?_
  refine g_istore B d_X7_search_44 (by decide) ?_
  exact g_cut rfl (t_X7_search_46 B En N a0 a1 a2 h0 N 0 z40 h)

theorem w_WaterOthers_TripFinder_36 : Cond.methodLink "WaterOthers$TripFinder" 36 y_X7_search ∈ q_tbl := q_mem 498 (by decide +kernel) (by decide +kernel)
def f_X7_find (N : Nat) (a0 : Nat) (a1 : Int32) (a2 : Int32) (σ : q_S) : Option q_S :=
  if ((q_w (q_w σ 74 3 (-6)) 74 4 (-6)).1 (a0 + 6) (0 : Int32).toNatClampNeg) = a1 then (some (q_w (q_w (q_w σ 74 3 (-6)) 74 4 (-6)) 74 3 0))
  else (if a2 = (-6) then (if ((q_w (q_w σ 74 3 (-6)) 74 4 (-6)).1 (a0 + 6) (0 : Int32).toNatClampNeg) ≤ a1 then (some (q_w (q_w (q_w (q_w σ 74 3 (-6)) 74 4 (-6)) 74 3 (f_J9_abs_0f7a4 (a1 - ((q_w (q_w σ 74 3 (-6)) 74 4 (-6)).1 (a0 + 6) (0 : Int32).toNatClampNeg)))) 74 4 2))
      else (some (q_w (q_w (q_w (q_w σ 74 3 (-6)) 74 4 (-6)) 74 3 (f_J9_abs_0f7a4 (a1 - ((q_w (q_w σ 74 3 (-6)) 74 4 (-6)).1 (a0 + 6) (0 : Int32).toNatClampNeg)))) 74 4 1)))
    else ((f_X7_search N a0 a1 a2 (q_w (q_w σ 74 3 (-6)) 74 4 (-6))).bind fun z73 =>
      some z73))
set_option maxRecDepth 20000 in
theorem t_X7_find {Z : q_Z} {l : Launch} (N : Nat) (a0 : Nat) (a1 : Int32) (a2 : Int32) (h0 : q_Wk a0) (σ : q_S) {σ' : q_S} (h : f_X7_find N a0 a1 a2 σ = some σ') : q_M Z l y_X7_find prog_9_method_2_code 5 none 5 [.ref (Z.1 74), .ref (Z.1 a0), .int a1, .int a2] σ none σ' := by
  refine q_met (by decide +kernel) (Nat.le_of_ble_eq_true rfl) (fun Γ hΓ B En => ?_)
  unfold f_X7_find at h
  refine g_cut (lv' := [(0, .ref (Z.1 74)), (1, .ref (Z.1 a0)), (2, .int a1), (3, .int a2)]) rfl ?_
  refine g_aload_n B d_X7_find_0 rfl rfl ?_
  refine g_bipush (v := (-6)) B d_X7_find_1 (by decide) ?_
  refine g_put (ci := 7) (k := 3) (v := (-6)) (ty := .int) B d_X7_find_3 q_in7 rfl q_yk7 q_nm7 (by decide) (fun _ _ => rfl) (by decide) w_WaterOthers_TripFinder_18 rfl rfl rfl rfl rfl (Nat.le_of_ble_eq_true rfl) (fun _ _ => rfl) ?_
  refine g_aload_n B d_X7_find_6 rfl rfl ?_
  refine g_bipush (v := (-6)) B d_X7_find_7 (by decide) ?_
  refine g_put (ci := 7) (k := 4) (v := (-6)) (ty := .int) B d_X7_find_9 q_in7 rfl q_yk7 q_nm7 (by decide) (fun _ _ => rfl) (by decide) w_WaterOthers_TripFinder_22 rfl rfl rfl rfl rfl (Nat.le_of_ble_eq_true rfl) (fun _ _ => rfl) ?_
  refine g_aload_n B d_X7_find_12 rfl rfl ?_
  refine g_getN (ci := 8) (k := 5) (v := .ref (Z.1 (a0 + 6))) B d_X7_find_13 q_in8 rfl (q_Wlt h0) ((q_cW h0) _ _) (by decide) w_WaterOthers_TripFinder_25 rfl rfl ?_
  refine g_iconst (v := 0) B d_X7_find_16 (by decide) ?_
  refine g_iald B d_X7_find_17 (q_WAlt h0) (q_cWA h0) (by decide) ?_
  refine g_istore B d_X7_find_18 (by decide) ?_
  refine g_iload B d_X7_find_20 rfl ?_
  refine g_iload_n B d_X7_find_22 rfl rfl ?_
  refine g_icmp_ne (tgt := 34) B d_X7_find_23 (by decide) h (fun h => ?_) (fun h => ?_)
  · refine g_iload_n B d_X7_find_34 rfl rfl ?_
    refine g_bipush (v := (-6)) B d_X7_find_35 (by decide) ?_
    refine g_icmp_ne (tgt := 69) B d_X7_find_37 (by decide) h (fun h => ?_) (fun h => ?_)
    · refine g_aload_n B d_X7_find_69 rfl rfl ?_
      refine g_aload_n B d_X7_find_70 rfl rfl ?_
      refine g_iload_n B d_X7_find_71 rfl rfl ?_
      refine g_iload_n B d_X7_find_72 rfl rfl ?_
      obtain ⟨z73, g73, h⟩ := q_bind h
      refine g_callV (p0 := 74) (ci := 7) (As := [.ref (Z.1 a0), .int a1, .int a2]) (rest := []) B d_X7_find_73 (t_X7_search N a0 a1 a2 h0 (q_w (q_w σ 74 3 (-6)) 74 4 (-6)) g73) m_X7_search w_WaterOthers_TripFinder_36 (by decide) rfl rfl rfl rfl (Nat.le_of_ble_eq_true rfl) (by omega) (by decide) ?_
      obtain rfl := q_po h
      exact g_vret B En d_X7_find_76
    · refine g_aload_n B d_X7_find_40 rfl rfl ?_
      refine g_iload_n B d_X7_find_41 rfl rfl ?_
      refine g_iload B d_X7_find_42 rfl ?_
      refine g_isub B d_X7_find_44 ?_
      refine g_callS (As := [.int (a1 - ((q_w (q_w σ 74 3 (-6)) 74 4 (-6)).1 (a0 + 6) (0 : Int32).toNatClampNeg))]) (rest := [.ref (Z.1 74)]) B d_X7_find_45 (t_J9_abs_0f7a4 (a1 - ((q_w (q_w σ 74 3 (-6)) 74 4 (-6)).1 (a0 + 6) (0 : Int32).toNatClampNeg)) (q_w (q_w σ 74 3 (-6)) 74 4 (-6)) rfl) m_J9_abs_0f7a4 w_WaterOthers_TripFinder_30 rfl rfl (Nat.le_of_ble_eq_true rfl) (by omega) (by decide) ?_
      refine g_put (ci := 7) (k := 3) (v := (f_J9_abs_0f7a4 (a1 - ((q_w (q_w σ 74 3 (-6)) 74 4 (-6)).1 (a0 + 6) (0 : Int32).toNatClampNeg)))) (ty := .int) B d_X7_find_48 q_in7 rfl q_yk7 q_nm7 (by decide) (fun _ _ => rfl) (by decide) w_WaterOthers_TripFinder_18 rfl rfl rfl rfl rfl (Nat.le_of_ble_eq_true rfl) (fun _ _ => rfl) ?_
      refine g_aload_n B d_X7_find_51 rfl rfl ?_
      refine g_iload_n B d_X7_find_52 rfl rfl ?_
      refine g_iload B d_X7_find_53 rfl ?_
      refine g_icmp_ge (tgt := 62) B d_X7_find_55 (by decide) h (fun h => ?_) (fun h => ?_)
      · refine g_iconst (v := 2) B d_X7_find_62 (by decide) ?_
        refine g_put (ci := 7) (k := 4) (v := 2) (ty := .int) B d_X7_find_63 q_in7 rfl q_yk7 q_nm7 (by decide) (fun _ _ => rfl) (by decide) w_WaterOthers_TripFinder_22 rfl rfl rfl rfl rfl (Nat.le_of_ble_eq_true rfl) (fun _ _ => rfl) ?_
        refine g_goto (tgt := 76) B d_X7_find_66 (by decide) ?_
        obtain rfl := q_po h
        exact g_vret B En d_X7_find_76
      · refine g_iconst (v := 1) B d_X7_find_58 (by decide) ?_
        refine g_goto (tgt := 63) B d_X7_find_59 (by decide) ?_
        refine g_put (ci := 7) (k := 4) (v := 1) (ty := .int) B d_X7_find_63 q_in7 rfl q_yk7 q_nm7 (by decide) (fun _ _ => rfl) (by decide) w_WaterOthers_TripFinder_22 rfl rfl rfl rfl rfl (Nat.le_of_ble_eq_true rfl) (fun _ _ => rfl) ?_
        refine g_goto (tgt := 76) B d_X7_find_66 (by decide) ?_
        obtain rfl := q_po h
        exact g_vret B En d_X7_find_76
  · refine g_aload_n B d_X7_find_26 rfl rfl ?_
    refine g_iconst (v := 0) B d_X7_find_27 (by decide) ?_
    refine g_put (ci := 7) (k := 3) (v := 0) (ty := .int) B d_X7_find_28 q_in7 rfl q_yk7 q_nm7 (by decide) (fun _ _ => rfl) (by decide) w_WaterOthers_TripFinder_18 rfl rfl rfl rfl rfl (Nat.le_of_ble_eq_true rfl) (fun _ _ => rfl) ?_
    refine g_goto (tgt := 76) B d_X7_find_31 (by decide) ?_
    obtain rfl := q_po h
    exact g_vret B En d_X7_find_76

theorem w_WaterOthers_ArchQueue_15 : Cond.fieldLink "WaterOthers$ArchQueue" 15 "WaterOthers$ArchQueue" "lasts" "[I" ∈ q_tbl := q_mem 208 (by decide +kernel) (by decide +kernel)
theorem w_WaterOthers_ArchQueue_23 : Cond.fieldLink "WaterOthers$ArchQueue" 23 "WaterOthers$ArchQueue" "leastWait" "I" ∈ q_tbl := q_mem 210 (by decide +kernel) (by decide +kernel)
theorem w_WaterOthers_ArchQueue_26 : Cond.methodLink "WaterOthers$ArchQueue" 26 y_X0_letThrough ∈ q_tbl := q_mem 542 (by decide +kernel) (by decide +kernel)
theorem w_WaterOthers_ArchQueue_30 : Cond.fieldLink "WaterOthers$ArchQueue" 30 "WaterOthers$ArchQueue" "leastOrder" "I" ∈ q_tbl := q_mem 212 (by decide +kernel) (by decide +kernel)
theorem w_WaterOthers_ArchQueue_33 : Cond.methodLink "WaterOthers$ArchQueue" 33 y_J9_max_7cf53 ∈ q_tbl := q_mem 546 (by decide +kernel) (by decide +kernel)
theorem w_WaterOthers_ArchQueue_9 : Cond.fieldLink "WaterOthers$ArchQueue" 9 "WaterOthers$ArchQueue" "comes" "[I" ∈ q_tbl := q_mem 207 (by decide +kernel) (by decide +kernel)
def f_X0_letThrough_28 (N : Nat) (rc : Int32 → Int32 → Int32 → Int32 → q_S → Option q_S)  (x1 : Int32) (x2 : Int32) (x3 : Int32) (x4 : Int32)  : Nat → Int32 → q_S → Option q_S
  | 0, _, _ => none
  | n + 1, x5, σ =>
    if (6 : Int32) ≤ x5 then (some σ)
    else (if ((x1 >>> (x5 &&& 31)) &&& 1) = 1 then (if ¬ ((x5 : Int32) < 0 ∨ 6 ≤ (x5 : Int32).toNatClampNeg) then (rc (x1 &&& ((1 <<< (x5 &&& 31)) ^^^ (-1))) ((f_J9_max_7cf53 x2 (σ.1 78 (x5 : Int32).toNatClampNeg)) + (σ.1 79 (x5 : Int32).toNatClampNeg)) ((x3 + (f_J9_max_7cf53 x2 (σ.1 78 (x5 : Int32).toNatClampNeg))) - (σ.1 78 (x5 : Int32).toNatClampNeg)) ((x4 * 10) + x5) σ).bind fun z97 =>
        f_X0_letThrough_28 N rc x1 x2 x3 x4 n (x5 + 1) z97 else none)
      else (f_X0_letThrough_28 N rc x1 x2 x3 x4 n (x5 + 1) σ))
def f_X0_letThrough (N : Nat) : Nat → Int32 → Int32 → Int32 → Int32 → q_S → Option q_S
  | 0, _, _, _, _, _ => none
  | m + 1, a0, a1, a2, a3, σ =>
    if a2 < (σ.1 77 3) then (if a0 = 0 then (some (q_w (q_w σ 77 3 a2) 77 4 a3))
      else (f_X0_letThrough_28 N (fun a0 a1 a2 a3 σ => f_X0_letThrough N m a0 a1 a2 a3 σ) a0 a1 a2 a3 N 0 σ))
    else (some σ)
set_option maxRecDepth 20000 in
theorem t_X0_letThrough_28 {Z : q_Z} {Γ : q_C} {m : Nat} {σ' : q_S} (B : q_B Z Γ prog_2_method_3_code "WaterOthers$ArchQueue" 7 (m + 2)) (En : q_E Z Γ none none σ') (N : Nat) (rc : Int32 → Int32 → Int32 → Int32 → q_S → Option q_S) (hrc : ∀ (b0 b1 b2 b3 : Int32) (σ σ' : q_S), rc b0 b1 b2 b3 σ = some σ' → q_M Z Γ.2.1 y_X0_letThrough prog_2_method_3_code 7 none (m + 1) [.ref (Z.1 77), .int b0, .int b1, .int b2, .int b3] σ none σ')  (x1 : Int32) (x2 : Int32) (x3 : Int32) (x4 : Int32)   : ∀ (n : Nat) (x5 : Int32) (σ : q_S), f_X0_letThrough_28 N rc x1 x2 x3 x4 n x5 σ = some σ' → q_G Z Γ 7 σ 28 [(0, .ref (Z.1 77)), (1, .int x1), (2, .int x2), (3, .int x3), (4, .int x4), (5, .int x5)] [] := by
  intro n
  induction n with
  | zero =>
    intro x5 σ h
    cases h
  | succ n ih =>
    intro x5 σ h
    unfold f_X0_letThrough_28 at h
    refine g_iload B d_X0_letThrough_28 rfl ?_
    refine g_bipush (v := 6) B d_X0_letThrough_30 (by decide) ?_
    refine g_icmp_ge (tgt := 106) B d_X0_letThrough_32 (by decide) h (fun h => ?_) (fun h => ?_)
    · obtain rfl := q_po h
      exact g_vret B En d_X0_letThrough_106
    · refine g_iload_n B d_X0_letThrough_35 rfl rfl ?_
      refine g_iload B d_X0_letThrough_36 rfl ?_
      refine g_ishr B d_X0_letThrough_38 ?_
      refine g_iconst (v := 1) B d_X0_letThrough_39 (by decide) ?_
      refine g_iand B d_X0_letThrough_40 ?_
      refine g_iconst (v := 1) B d_X0_letThrough_41 (by decide) ?_
      refine g_icmp_ne (tgt := 100) B d_X0_letThrough_42 (by decide) h (fun h => ?_) (fun h => ?_)
      · refine g_iinc (v := (x5 + 1)) B d_X0_letThrough_100 rfl rfl (by decide) ?_
        refine g_goto (tgt := 28) B d_X0_letThrough_103 (by decide) ?_
        exact g_cut rfl (ih (x5 + 1) σ h)
      · refine g_iload_n B d_X0_letThrough_45 rfl rfl ?_
        refine g_aload_n B d_X0_letThrough_46 rfl rfl ?_
        refine g_get (ci := 0) (k := 0) (v := .ref (Z.1 78)) B d_X0_letThrough_47 q_in0 rfl (by decide) rfl (by decide) w_WaterOthers_ArchQueue_9 rfl rfl ?_
        refine g_iload B d_X0_letThrough_50 rfl ?_
        obtain ⟨h52, h⟩ := q_chk h
        refine g_iald B d_X0_letThrough_52 (by decide) (fun _ _ => rfl) h52 ?_
        refine g_callS (As := [.int x2, .int (σ.1 78 (x5 : Int32).toNatClampNeg)]) (rest := []) B d_X0_letThrough_53 (t_J9_max_7cf53 x2 (σ.1 78 (x5 : Int32).toNatClampNeg) σ rfl) m_J9_max_7cf53 w_WaterOthers_ArchQueue_33 rfl rfl (Nat.le_of_ble_eq_true rfl) (by omega) (by decide) ?_
        refine g_istore B d_X0_letThrough_56 (by decide) ?_
        refine g_aload_n B d_X0_letThrough_58 rfl rfl ?_
        refine g_iload_n B d_X0_letThrough_59 rfl rfl ?_
        refine g_iconst (v := 1) B d_X0_letThrough_60 (by decide) ?_
        refine g_iload B d_X0_letThrough_61 rfl ?_
        refine g_ishl B d_X0_letThrough_63 ?_
        refine g_iconst (v := (-1)) B d_X0_letThrough_64 (by decide) ?_
        refine g_ixor B d_X0_letThrough_65 ?_
        refine g_iand B d_X0_letThrough_66 ?_
        refine g_iload B d_X0_letThrough_67 rfl ?_
        refine g_aload_n B d_X0_letThrough_69 rfl rfl ?_
        refine g_get (ci := 0) (k := 1) (v := .ref (Z.1 79)) B d_X0_letThrough_70 q_in0 rfl (by decide) rfl (by decide) w_WaterOthers_ArchQueue_15 rfl rfl ?_
        refine g_iload B d_X0_letThrough_73 rfl ?_
        refine g_iald B d_X0_letThrough_75 (by decide) (fun _ _ => rfl) h52 ?_
        refine g_iadd B d_X0_letThrough_76 ?_
        refine g_iload_n B d_X0_letThrough_77 rfl rfl ?_
        refine g_iload B d_X0_letThrough_78 rfl ?_
        refine g_iadd B d_X0_letThrough_80 ?_
        refine g_aload_n B d_X0_letThrough_81 rfl rfl ?_
        refine g_get (ci := 0) (k := 0) (v := .ref (Z.1 78)) B d_X0_letThrough_82 q_in0 rfl (by decide) rfl (by decide) w_WaterOthers_ArchQueue_9 rfl rfl ?_
        refine g_iload B d_X0_letThrough_85 rfl ?_
        refine g_iald B d_X0_letThrough_87 (by decide) (fun _ _ => rfl) h52 ?_
        refine g_isub B d_X0_letThrough_88 ?_
        refine g_iload B d_X0_letThrough_89 rfl ?_
        refine g_bipush (v := 10) B d_X0_letThrough_91 (by decide) ?_
        refine g_imul B d_X0_letThrough_93 ?_
        refine g_iload B d_X0_letThrough_94 rfl ?_
        refine g_iadd B d_X0_letThrough_96 ?_
        obtain ⟨z97, g97, h⟩ := q_bind h
        refine g_callV (p0 := 77) (ci := 0) (As := [.int (x1 &&& ((1 <<< (x5 &&& 31)) ^^^ (-1))), .int ((f_J9_max_7cf53 x2 (σ.1 78 (x5 : Int32).toNatClampNeg)) + (σ.1 79 (x5 : Int32).toNatClampNeg)), .int ((x3 + (f_J9_max_7cf53 x2 (σ.1 78 (x5 : Int32).toNatClampNeg))) - (σ.1 78 (x5 : Int32).toNatClampNeg)), .int ((x4 * 10) + x5)]) (rest := []) B d_X0_letThrough_97 (hrc (x1 &&& ((1 <<< (x5 &&& 31)) ^^^ (-1))) ((f_J9_max_7cf53 x2 (σ.1 78 (x5 : Int32).toNatClampNeg)) + (σ.1 79 (x5 : Int32).toNatClampNeg)) ((x3 + (f_J9_max_7cf53 x2 (σ.1 78 (x5 : Int32).toNatClampNeg))) - (σ.1 78 (x5 : Int32).toNatClampNeg)) ((x4 * 10) + x5) σ _ g97) m_X0_letThrough w_WaterOthers_ArchQueue_26 (by decide) rfl rfl rfl rfl (Nat.le_of_ble_eq_true rfl) (by omega) (by decide) ?_
        refine g_iinc (v := (x5 + 1)) B d_X0_letThrough_100 rfl rfl (by decide) ?_
        refine g_goto (tgt := 28) B d_X0_letThrough_103 (by decide) ?_
        exact g_cut rfl (ih (x5 + 1) z97 h)
set_option maxRecDepth 20000 in
theorem t_X0_letThrough {Z : q_Z} {l : Launch} (N : Nat) : ∀ (m : Nat) (a0 : Int32) (a1 : Int32) (a2 : Int32) (a3 : Int32) (σ : q_S) {σ' : q_S} (h : f_X0_letThrough N m a0 a1 a2 a3 σ = some σ'), q_M Z l y_X0_letThrough prog_2_method_3_code 7 none (m + 1) [.ref (Z.1 77), .int a0, .int a1, .int a2, .int a3] σ none σ' := by
  intro m
  induction m with
  | zero =>
    intro a0 a1 a2 a3 σ σ' h
    cases h
  | succ m ih =>
    intro a0 a1 a2 a3 σ σ' h
    refine q_met (by decide +kernel) (Nat.le_of_ble_eq_true rfl) (fun Γ hΓ B En => ?_)
    subst hΓ
    unfold f_X0_letThrough at h
    refine g_cut (lv' := [(0, .ref (Z.1 77)), (1, .int a0), (2, .int a1), (3, .int a2), (4, .int a3)]) rfl ?_
    refine g_iload_n B d_X0_letThrough_0 rfl rfl ?_
    refine g_aload_n B d_X0_letThrough_1 rfl rfl ?_
    refine g_get (ci := 0) (k := 3) B d_X0_letThrough_2 q_in0 rfl (by decide) rfl (by decide) w_WaterOthers_ArchQueue_23 rfl rfl ?_
    refine g_icmp_lt (tgt := 9) B d_X0_letThrough_5 (by decide) h (fun h => ?_) (fun h => ?_)
    · refine g_iload_n B d_X0_letThrough_9 rfl rfl ?_
      refine g_if_ne (tgt := 25) B d_X0_letThrough_10 (by decide) h (fun h => ?_) (fun h => ?_)
      · refine g_iconst (v := 0) B d_X0_letThrough_25 (by decide) ?_
        refine g_istore B d_X0_letThrough_26 (by decide) ?_
        exact g_cut rfl (t_X0_letThrough_28 B En N (fun a0 a1 a2 a3 σ => f_X0_letThrough N m a0 a1 a2 a3 σ) (fun a0 a1 a2 a3 σ σ' h => ih a0 a1 a2 a3 σ h) a0 a1 a2 a3 N 0 σ h)
      · refine g_aload_n B d_X0_letThrough_13 rfl rfl ?_
        refine g_iload_n B d_X0_letThrough_14 rfl rfl ?_
        refine g_put (ci := 0) (k := 3) (v := a2) (ty := .int) B d_X0_letThrough_15 q_in0 rfl q_yk0 q_nm0 (by decide) (fun _ _ => rfl) (by decide) w_WaterOthers_ArchQueue_23 rfl rfl rfl rfl rfl (Nat.le_of_ble_eq_true rfl) (fun _ _ => rfl) ?_
        refine g_aload_n B d_X0_letThrough_18 rfl rfl ?_
        refine g_iload B d_X0_letThrough_19 rfl ?_
        refine g_put (ci := 0) (k := 4) (v := a3) (ty := .int) B d_X0_letThrough_21 q_in0 rfl q_yk0 q_nm0 (by decide) (fun _ _ => rfl) (by decide) w_WaterOthers_ArchQueue_30 rfl rfl rfl rfl rfl (Nat.le_of_ble_eq_true rfl) (fun _ _ => rfl) ?_
        obtain rfl := q_po h
        exact g_vret B En d_X0_letThrough_24
    · obtain rfl := q_po h
      exact g_vret B En d_X0_letThrough_8

theorem k_w_WaterOthers_ArchQueue_22 : Cond.constant "WaterOthers$ArchQueue" 22 (1000000) ∈ q_tbl := q_mem 541 (by decide +kernel) (by decide +kernel)
theorem w_WaterOthers_ArchQueue_18 : Cond.fieldLink "WaterOthers$ArchQueue" 18 "WaterOthers$ArchQueue" "comers" "I" ∈ q_tbl := q_mem 209 (by decide +kernel) (by decide +kernel)
def f_X0_settle_64 (N : Nat) (k13 : Int32 → Int32 → Int32 → q_S → Option q_S) (x3 : Int32) (x4 : Int32) (x5 : Int32) (t1 : Int32) (t2 : Int32) (σ : q_S) : Option q_S :=
  k13 (x3 / 10) (x4 / 10) (x5 + (-1)) (q_w σ 77 2 (t1 ||| t2))
def f_X0_settle_13 (N : Nat)    : Nat → Int32 → Int32 → Int32 → q_S → Option q_S
  | 0, _, _, _, _ => none
  | n + 1, x3, x4, x5, σ =>
    if x5 < 0 then ((f_X0_letThrough N 8 ((q_w σ 77 3 1000000).1 77 2) 0 0 0 (q_w σ 77 3 1000000)).bind fun z100 =>
      some z100)
    else (if ¬ ((x5 : Int32) < 0 ∨ 6 ≤ (x5 : Int32).toNatClampNeg) then if ((q_w (q_w σ 78 (x5 : Int32).toNatClampNeg (q_rem x3 10)) 79 (x5 : Int32).toNatClampNeg (q_rem x4 10)).1 79 (x5 : Int32).toNatClampNeg) ≤ 0 then (f_X0_settle_64 N (fun x3 x4 x5 σ => f_X0_settle_13 N n x3 x4 x5 σ) x3 x4 x5 ((q_w (q_w σ 78 (x5 : Int32).toNatClampNeg (q_rem x3 10)) 79 (x5 : Int32).toNatClampNeg (q_rem x4 10)).1 77 2) 0 (q_w (q_w σ 78 (x5 : Int32).toNatClampNeg (q_rem x3 10)) 79 (x5 : Int32).toNatClampNeg (q_rem x4 10)))
      else (f_X0_settle_64 N (fun x3 x4 x5 σ => f_X0_settle_13 N n x3 x4 x5 σ) x3 x4 x5 ((q_w (q_w σ 78 (x5 : Int32).toNatClampNeg (q_rem x3 10)) 79 (x5 : Int32).toNatClampNeg (q_rem x4 10)).1 77 2) (1 <<< (x5 &&& 31)) (q_w (q_w σ 78 (x5 : Int32).toNatClampNeg (q_rem x3 10)) 79 (x5 : Int32).toNatClampNeg (q_rem x4 10))) else none)
def f_X0_settle (N : Nat) (a0 : Int32) (a1 : Int32) (σ : q_S) : Option q_S :=
  f_X0_settle_13 N N a0 a1 5 (q_w σ 77 2 0)
set_option maxRecDepth 20000 in
theorem t_X0_settle_64 {Z : q_Z} {Γ : q_C} {σ' : q_S} (B : q_B Z Γ prog_2_method_2_code "WaterOthers$ArchQueue" 6 10) (En : q_E Z Γ none none σ') (N : Nat) (k13 : Int32 → Int32 → Int32 → q_S → Option q_S) (x3 : Int32) (x4 : Int32) (x5 : Int32) (t1 : Int32) (t2 : Int32) (K13 : ∀ (x3 : Int32) (x4 : Int32) (x5 : Int32) (σ : q_S), k13 x3 x4 x5 σ = some σ' → q_G Z Γ 6 σ 13 [(0, .ref (Z.1 77)), (3, .int x3), (4, .int x4), (5, .int x5)] []) (σ : q_S)  (h : f_X0_settle_64 N k13 x3 x4 x5 t1 t2 σ = some σ') : q_G Z Γ 6 σ 64 [(0, .ref (Z.1 77)), (3, .int x3), (4, .int x4), (5, .int x5)] [.int t2, .int t1, .ref (Z.1 77)] := by
  unfold f_X0_settle_64 at h
  refine g_ior B d_X0_settle_64 ?_
  refine g_put (ci := 0) (k := 2) (v := (t1 ||| t2)) (ty := .int) B d_X0_settle_65 q_in0 rfl q_yk0 q_nm0 (by decide) (fun _ _ => rfl) (by decide) w_WaterOthers_ArchQueue_18 rfl rfl rfl rfl rfl (Nat.le_of_ble_eq_true rfl) (fun _ _ => rfl) ?_
  refine g_iload_n B d_X0_settle_68 rfl rfl ?_
  refine g_bipush (v := 10) B d_X0_settle_69 (by decide) ?_
  refine g_idiv B d_X0_settle_71 (by decide) ?_
  refine g_istore_n B d_X0_settle_72 rfl (by decide) ?_
  refine g_iload B d_X0_settle_73 rfl ?_
  refine g_bipush (v := 10) B d_X0_settle_75 (by decide) ?_
  refine g_idiv B d_X0_settle_77 (by decide) ?_
  refine g_istore B d_X0_settle_78 (by decide) ?_
  refine g_iinc (v := (x5 + (-1))) B d_X0_settle_80 rfl rfl (by decide) ?_
  refine g_goto (tgt := 13) B d_X0_settle_83 (by decide) ?_
  exact g_cut rfl (K13 (x3 / 10) (x4 / 10) (x5 + (-1)) (q_w σ 77 2 (t1 ||| t2)) h)
set_option maxRecDepth 20000 in
theorem t_X0_settle_13 {Z : q_Z} {Γ : q_C} {σ' : q_S} (B : q_B Z Γ prog_2_method_2_code "WaterOthers$ArchQueue" 6 10) (En : q_E Z Γ none none σ') (N : Nat)     : ∀ (n : Nat) (x3 : Int32) (x4 : Int32) (x5 : Int32) (σ : q_S), f_X0_settle_13 N n x3 x4 x5 σ = some σ' → q_G Z Γ 6 σ 13 [(0, .ref (Z.1 77)), (3, .int x3), (4, .int x4), (5, .int x5)] [] := by
  intro n
  induction n with
  | zero =>
    intro x3 x4 x5 σ h
    cases h
  | succ n ih =>
    intro x3 x4 x5 σ h
    unfold f_X0_settle_13 at h
    refine g_iload B d_X0_settle_13 rfl ?_
    refine g_if_lt (tgt := 86) B d_X0_settle_15 (by decide) h (fun h => ?_) (fun h => ?_)
    · refine g_aload_n B d_X0_settle_86 rfl rfl ?_
      refine g_ldc (v := 1000000) B d_X0_settle_87 k_w_WaterOthers_ArchQueue_22 ?_
      refine g_put (ci := 0) (k := 3) (v := 1000000) (ty := .int) B d_X0_settle_89 q_in0 rfl q_yk0 q_nm0 (by decide) (fun _ _ => rfl) (by decide) w_WaterOthers_ArchQueue_23 rfl rfl rfl rfl rfl (Nat.le_of_ble_eq_true rfl) (fun _ _ => rfl) ?_
      refine g_aload_n B d_X0_settle_92 rfl rfl ?_
      refine g_aload_n B d_X0_settle_93 rfl rfl ?_
      refine g_get (ci := 0) (k := 2) B d_X0_settle_94 q_in0 rfl (by decide) rfl (by decide) w_WaterOthers_ArchQueue_18 rfl rfl ?_
      refine g_iconst (v := 0) B d_X0_settle_97 (by decide) ?_
      refine g_iconst (v := 0) B d_X0_settle_98 (by decide) ?_
      refine g_iconst (v := 0) B d_X0_settle_99 (by decide) ?_
      obtain ⟨z100, g100, h⟩ := q_bind h
      refine g_callV (p0 := 77) (ci := 0) (As := [.int ((q_w σ 77 3 1000000).1 77 2), .int 0, .int 0, .int 0]) (rest := []) B d_X0_settle_100 (t_X0_letThrough N 8 ((q_w σ 77 3 1000000).1 77 2) 0 0 0 (q_w σ 77 3 1000000) g100) m_X0_letThrough w_WaterOthers_ArchQueue_26 (by decide) rfl rfl rfl rfl (Nat.le_of_ble_eq_true rfl) (by omega) (by decide) ?_
      obtain rfl := q_po h
      exact g_vret B En d_X0_settle_103
    · refine g_aload_n B d_X0_settle_18 rfl rfl ?_
      refine g_get (ci := 0) (k := 0) (v := .ref (Z.1 78)) B d_X0_settle_19 q_in0 rfl (by decide) rfl (by decide) w_WaterOthers_ArchQueue_9 rfl rfl ?_
      refine g_iload B d_X0_settle_22 rfl ?_
      refine g_iload_n B d_X0_settle_24 rfl rfl ?_
      refine g_bipush (v := 10) B d_X0_settle_25 (by decide) ?_
      refine g_irem B d_X0_settle_27 (by decide) ?_
      obtain ⟨h28, h⟩ := q_chk h
      refine g_iast B d_X0_settle_28 (by decide) (fun _ _ => rfl) h28 ?_
      refine g_aload_n B d_X0_settle_29 rfl rfl ?_
      refine g_get (ci := 0) (k := 1) (v := .ref (Z.1 79)) B d_X0_settle_30 q_in0 rfl (by decide) rfl (by decide) w_WaterOthers_ArchQueue_15 rfl rfl ?_
      refine g_iload B d_X0_settle_33 rfl ?_
      refine g_iload B d_X0_settle_35 rfl ?_
      refine g_bipush (v := 10) B d_X0_settle_37 (by decide) ?_
      refine g_irem B d_X0_settle_39 (by decide) ?_
      refine g_iast B d_X0_settle_40 (by decide) (fun _ _ => rfl) h28 ?_
      refine g_aload_n B d_X0_settle_41 rfl rfl ?_
      refine g_dup B d_X0_settle_42 rfl ?_
      refine g_get (ci := 0) (k := 2) B d_X0_settle_43 q_in0 rfl (by decide) rfl (by decide) w_WaterOthers_ArchQueue_18 rfl rfl ?_
      refine g_aload_n B d_X0_settle_46 rfl rfl ?_
      refine g_get (ci := 0) (k := 1) (v := .ref (Z.1 79)) B d_X0_settle_47 q_in0 rfl (by decide) rfl (by decide) w_WaterOthers_ArchQueue_15 rfl rfl ?_
      refine g_iload B d_X0_settle_50 rfl ?_
      refine g_iald B d_X0_settle_52 (by decide) (fun _ _ => rfl) h28 ?_
      refine g_if_le (tgt := 63) B d_X0_settle_53 (by decide) h (fun h => ?_) (fun h => ?_)
      · refine g_iconst (v := 0) B d_X0_settle_63 (by decide) ?_
        exact g_cut rfl (t_X0_settle_64 B En N (fun x3 x4 x5 σ => f_X0_settle_13 N n x3 x4 x5 σ) x3 x4 x5 ((q_w (q_w σ 78 (x5 : Int32).toNatClampNeg (q_rem x3 10)) 79 (x5 : Int32).toNatClampNeg (q_rem x4 10)).1 77 2) 0 (ih) (q_w (q_w σ 78 (x5 : Int32).toNatClampNeg (q_rem x3 10)) 79 (x5 : Int32).toNatClampNeg (q_rem x4 10)) h)
      · refine g_iconst (v := 1) B d_X0_settle_56 (by decide) ?_
        refine g_iload B d_X0_settle_57 rfl ?_
        refine g_ishl B d_X0_settle_59 ?_
        refine g_goto (tgt := 64) B d_X0_settle_60 (by decide) ?_
        exact g_cut rfl (t_X0_settle_64 B En N (fun x3 x4 x5 σ => f_X0_settle_13 N n x3 x4 x5 σ) x3 x4 x5 ((q_w (q_w σ 78 (x5 : Int32).toNatClampNeg (q_rem x3 10)) 79 (x5 : Int32).toNatClampNeg (q_rem x4 10)).1 77 2) (1 <<< (x5 &&& 31)) (ih) (q_w (q_w σ 78 (x5 : Int32).toNatClampNeg (q_rem x3 10)) 79 (x5 : Int32).toNatClampNeg (q_rem x4 10)) h)
set_option maxRecDepth 20000 in
theorem t_X0_settle {Z : q_Z} {l : Launch} (N : Nat) (a0 : Int32) (a1 : Int32)  (σ : q_S) {σ' : q_S} (h : f_X0_settle N a0 a1 σ = some σ') : q_M Z l y_X0_settle prog_2_method_2_code 6 none 10 [.ref (Z.1 77), .int a0, .int a1] σ none σ' := by
  refine q_met (by decide +kernel) (Nat.le_of_ble_eq_true rfl) (fun Γ hΓ B En => ?_)
  unfold f_X0_settle at h
  refine g_cut (lv' := [(0, .ref (Z.1 77)), (1, .int a0), (2, .int a1)]) rfl ?_
  refine g_iload_n B d_X0_settle_0 rfl rfl ?_
  refine g_istore_n B d_X0_settle_1 rfl (by decide) ?_
  refine g_iload_n B d_X0_settle_2 rfl rfl ?_
  refine g_istore B d_X0_settle_3 (by decide) ?_
  refine g_aload_n B d_X0_settle_5 rfl rfl ?_
  refine g_iconst (v := 0) B d_X0_settle_6 (by decide) ?_
  refine g_put (ci := 0) (k := 2) (v := 0) (ty := .int) B d_X0_settle_7 q_in0 rfl q_yk0 q_nm0 (by decide) (fun _ _ => rfl) (by decide) w_WaterOthers_ArchQueue_18 rfl rfl rfl rfl rfl (Nat.le_of_ble_eq_true rfl) (fun _ _ => rfl) ?_
  refine g_iconst (v := 5) B d_X0_settle_10 (by decide) ?_
  refine g_istore B d_X0_settle_11 (by decide) ?_
  exact g_cut rfl (t_X0_settle_13 B En N N a0 a1 5 (q_w σ 77 2 0) h)
