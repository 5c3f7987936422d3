def y_X3_copy : MethodName := ⟨"WaterOthers$Reach", "copy", "(LWaterOthers$Reach;)V"⟩
def y_X3_has : MethodName := ⟨"WaterOthers$Reach", "has", "(I)Z"⟩
def y_X3_thereBits : MethodName := ⟨"WaterOthers$Reach", "thereBits", "()I"⟩
def y_X3_walkersIn : MethodName := ⟨"WaterOthers$Reach", "walkersIn", "(I)I"⟩
def y_X3_otherCell : MethodName := ⟨"WaterOthers$Reach", "otherCell", "(LWaterOthers$Walker;)I"⟩
def y_X3_othersIn : MethodName := ⟨"WaterOthers$Reach", "othersIn", "(I)I"⟩
def y_X3_partedCount : MethodName := ⟨"WaterOthers$Reach", "partedCount", "()I"⟩
def y_X3_cellSum : MethodName := ⟨"WaterOthers$Reach", "cellSum", "()I"⟩
def y_X3_isHeld : MethodName := ⟨"WaterOthers$Reach", "isHeld", "(LWaterOthers$Walker;)Z"⟩
def y_X3_isStoneInReach : MethodName := ⟨"WaterOthers$Reach", "isStoneInReach", "(LWaterOthers$Walker;)Z"⟩
def y_X3_whyNoStep : MethodName := ⟨"WaterOthers$Reach", "whyNoStep", "(II)I"⟩
def y_X3_whyNot : MethodName := ⟨"WaterOthers$Reach", "whyNot", "(IC)I"⟩
def y_X3_turnWind : MethodName := ⟨"WaterOthers$Reach", "turnWind", "()V"⟩
def y_X3_passBeat : MethodName := ⟨"WaterOthers$Reach", "passBeat", "()V"⟩
def y_X3_actAlone : MethodName := ⟨"WaterOthers$Reach", "actAlone", "(LWaterOthers$Walker;C)V"⟩
def y_X3_act : MethodName := ⟨"WaterOthers$Reach", "act", "(IC)V"⟩
theorem d_X3_copy_0 : q_dec prog_5_method_2_code 0 (.aload_n 0) 1 1 := ⟨by decide +kernel, rfl⟩
theorem d_X3_copy_1 : q_dec prog_5_method_2_code 1 (.aload_n 1) 1 2 := ⟨by decide +kernel, rfl⟩
theorem d_X3_copy_2 : q_dec prog_5_method_2_code 2 (.getfield 29) 3 5 := ⟨by decide +kernel, rfl⟩
theorem d_X3_copy_5 : q_dec prog_5_method_2_code 5 (.putfield 29) 3 8 := ⟨by decide +kernel, rfl⟩
theorem d_X3_copy_8 : q_dec prog_5_method_2_code 8 (.aload_n 0) 1 9 := ⟨by decide +kernel, rfl⟩
theorem d_X3_copy_9 : q_dec prog_5_method_2_code 9 (.aload_n 1) 1 10 := ⟨by decide +kernel, rfl⟩
theorem d_X3_copy_10 : q_dec prog_5_method_2_code 10 (.getfield 9) 3 13 := ⟨by decide +kernel, rfl⟩
theorem d_X3_copy_13 : q_dec prog_5_method_2_code 13 (.putfield 9) 3 16 := ⟨by decide +kernel, rfl⟩
theorem d_X3_copy_16 : q_dec prog_5_method_2_code 16 (.aload_n 0) 1 17 := ⟨by decide +kernel, rfl⟩
theorem d_X3_copy_17 : q_dec prog_5_method_2_code 17 (.aload_n 1) 1 18 := ⟨by decide +kernel, rfl⟩
theorem d_X3_copy_18 : q_dec prog_5_method_2_code 18 (.getfield 32) 3 21 := ⟨by decide +kernel, rfl⟩
theorem d_X3_copy_21 : q_dec prog_5_method_2_code 21 (.putfield 32) 3 24 := ⟨by decide +kernel, rfl⟩
theorem d_X3_copy_24 : q_dec prog_5_method_2_code 24 (.aload_n 0) 1 25 := ⟨by decide +kernel, rfl⟩
theorem d_X3_copy_25 : q_dec prog_5_method_2_code 25 (.aload_n 1) 1 26 := ⟨by decide +kernel, rfl⟩
theorem d_X3_copy_26 : q_dec prog_5_method_2_code 26 (.getfield 36) 3 29 := ⟨by decide +kernel, rfl⟩
theorem d_X3_copy_29 : q_dec prog_5_method_2_code 29 (.putfield 36) 3 32 := ⟨by decide +kernel, rfl⟩
theorem d_X3_copy_32 : q_dec prog_5_method_2_code 32 (.iconst 0) 1 33 := ⟨by decide +kernel, rfl⟩
theorem d_X3_copy_33 : q_dec prog_5_method_2_code 33 (.istore_n 2) 1 34 := ⟨by decide +kernel, rfl⟩
theorem d_X3_copy_34 : q_dec prog_5_method_2_code 34 (.iload_n 2) 1 35 := ⟨by decide +kernel, rfl⟩
theorem d_X3_copy_35 : q_dec prog_5_method_2_code 35 (.bipush 6) 2 37 := ⟨by decide +kernel, rfl⟩
theorem d_X3_copy_37 : q_dec prog_5_method_2_code 37 (.if_icmp .ge 24) 3 40 := ⟨by decide +kernel, rfl⟩
theorem d_X3_copy_40 : q_dec prog_5_method_2_code 40 (.aload_n 0) 1 41 := ⟨by decide +kernel, rfl⟩
theorem d_X3_copy_41 : q_dec prog_5_method_2_code 41 (.getfield 17) 3 44 := ⟨by decide +kernel, rfl⟩
theorem d_X3_copy_44 : q_dec prog_5_method_2_code 44 (.iload_n 2) 1 45 := ⟨by decide +kernel, rfl⟩
theorem d_X3_copy_45 : q_dec prog_5_method_2_code 45 (.aaload) 1 46 := ⟨by decide +kernel, rfl⟩
theorem d_X3_copy_46 : q_dec prog_5_method_2_code 46 (.aload_n 1) 1 47 := ⟨by decide +kernel, rfl⟩
theorem d_X3_copy_47 : q_dec prog_5_method_2_code 47 (.getfield 17) 3 50 := ⟨by decide +kernel, rfl⟩
theorem d_X3_copy_50 : q_dec prog_5_method_2_code 50 (.iload_n 2) 1 51 := ⟨by decide +kernel, rfl⟩
theorem d_X3_copy_51 : q_dec prog_5_method_2_code 51 (.aaload) 1 52 := ⟨by decide +kernel, rfl⟩
theorem d_X3_copy_52 : q_dec prog_5_method_2_code 52 (.invokevirtual 39) 3 55 := ⟨by decide +kernel, rfl⟩
theorem d_X3_copy_55 : q_dec prog_5_method_2_code 55 (.iinc 2 1) 3 58 := ⟨by decide +kernel, rfl⟩
theorem d_X3_copy_58 : q_dec prog_5_method_2_code 58 (.goto (-24)) 3 61 := ⟨by decide +kernel, rfl⟩
theorem d_X3_copy_61 : q_dec prog_5_method_2_code 61 (.aload_n 0) 1 62 := ⟨by decide +kernel, rfl⟩
theorem d_X3_copy_62 : q_dec prog_5_method_2_code 62 (.getfield 24) 3 65 := ⟨by decide +kernel, rfl⟩
theorem d_X3_copy_65 : q_dec prog_5_method_2_code 65 (.aload_n 1) 1 66 := ⟨by decide +kernel, rfl⟩
theorem d_X3_copy_66 : q_dec prog_5_method_2_code 66 (.getfield 24) 3 69 := ⟨by decide +kernel, rfl⟩
theorem d_X3_copy_69 : q_dec prog_5_method_2_code 69 (.invokevirtual 43) 3 72 := ⟨by decide +kernel, rfl⟩
theorem d_X3_copy_72 : q_dec prog_5_method_2_code 72 (.return_) 1 73 := ⟨by decide +kernel, rfl⟩
theorem m_X3_copy : q_wV y_X3_copy prog_5_method_2_code 3 none 1 := ⟨q_mem 375 (by decide +kernel) (by decide +kernel), q_mem 373 (by decide +kernel) (by decide +kernel), q_mem 374 (by decide +kernel) (by decide +kernel), q_mem 3 (by decide +kernel) (by decide +kernel), by decide +kernel⟩
theorem d_X3_has_0 : q_dec prog_5_method_3_code 0 (.iload_n 1) 1 1 := ⟨by decide +kernel, rfl⟩
theorem d_X3_has_1 : q_dec prog_5_method_3_code 1 (.iconst 0) 1 2 := ⟨by decide +kernel, rfl⟩
theorem d_X3_has_2 : q_dec prog_5_method_3_code 2 (.iconst 5) 1 3 := ⟨by decide +kernel, rfl⟩
theorem d_X3_has_3 : q_dec prog_5_method_3_code 3 (.invokestatic 46) 3 6 := ⟨by decide +kernel, rfl⟩
theorem d_X3_has_6 : q_dec prog_5_method_3_code 6 (.ifCond .eq 19) 3 9 := ⟨by decide +kernel, rfl⟩
theorem d_X3_has_9 : q_dec prog_5_method_3_code 9 (.aload_n 0) 1 10 := ⟨by decide +kernel, rfl⟩
theorem d_X3_has_10 : q_dec prog_5_method_3_code 10 (.getfield 17) 3 13 := ⟨by decide +kernel, rfl⟩
theorem d_X3_has_13 : q_dec prog_5_method_3_code 13 (.iload_n 1) 1 14 := ⟨by decide +kernel, rfl⟩
theorem d_X3_has_14 : q_dec prog_5_method_3_code 14 (.aaload) 1 15 := ⟨by decide +kernel, rfl⟩
theorem d_X3_has_15 : q_dec prog_5_method_3_code 15 (.getfield 50) 3 18 := ⟨by decide +kernel, rfl⟩
theorem d_X3_has_18 : q_dec prog_5_method_3_code 18 (.ifCond .eq 7) 3 21 := ⟨by decide +kernel, rfl⟩
theorem d_X3_has_21 : q_dec prog_5_method_3_code 21 (.iconst 1) 1 22 := ⟨by decide +kernel, rfl⟩
theorem d_X3_has_22 : q_dec prog_5_method_3_code 22 (.goto 4) 3 25 := ⟨by decide +kernel, rfl⟩
theorem d_X3_has_25 : q_dec prog_5_method_3_code 25 (.iconst 0) 1 26 := ⟨by decide +kernel, rfl⟩
theorem d_X3_has_26 : q_dec prog_5_method_3_code 26 (.ireturn) 1 27 := ⟨by decide +kernel, rfl⟩
theorem m_X3_has : q_wV y_X3_has prog_5_method_3_code 2 (some .boolean) 1 := ⟨q_mem 328 (by decide +kernel) (by decide +kernel), q_mem 326 (by decide +kernel) (by decide +kernel), q_mem 327 (by decide +kernel) (by decide +kernel), q_mem 3 (by decide +kernel) (by decide +kernel), by decide +kernel⟩
theorem d_X3_thereBits_0 : q_dec prog_5_method_4_code 0 (.iconst 0) 1 1 := ⟨by decide +kernel, rfl⟩
theorem d_X3_thereBits_1 : q_dec prog_5_method_4_code 1 (.istore_n 1) 1 2 := ⟨by decide +kernel, rfl⟩
theorem d_X3_thereBits_2 : q_dec prog_5_method_4_code 2 (.iconst 0) 1 3 := ⟨by decide +kernel, rfl⟩
theorem d_X3_thereBits_3 : q_dec prog_5_method_4_code 3 (.istore_n 2) 1 4 := ⟨by decide +kernel, rfl⟩
theorem d_X3_thereBits_4 : q_dec prog_5_method_4_code 4 (.iload_n 2) 1 5 := ⟨by decide +kernel, rfl⟩
theorem d_X3_thereBits_5 : q_dec prog_5_method_4_code 5 (.bipush 6) 2 7 := ⟨by decide +kernel, rfl⟩
theorem d_X3_thereBits_7 : q_dec prog_5_method_4_code 7 (.if_icmp .ge 31) 3 10 := ⟨by decide +kernel, rfl⟩
theorem d_X3_thereBits_10 : q_dec prog_5_method_4_code 10 (.iload_n 1) 1 11 := ⟨by decide +kernel, rfl⟩
theorem d_X3_thereBits_11 : q_dec prog_5_method_4_code 11 (.aload_n 0) 1 12 := ⟨by decide +kernel, rfl⟩
theorem d_X3_thereBits_12 : q_dec prog_5_method_4_code 12 (.getfield 17) 3 15 := ⟨by decide +kernel, rfl⟩
theorem d_X3_thereBits_15 : q_dec prog_5_method_4_code 15 (.iload_n 2) 1 16 := ⟨by decide +kernel, rfl⟩
theorem d_X3_thereBits_16 : q_dec prog_5_method_4_code 16 (.aaload) 1 17 := ⟨by decide +kernel, rfl⟩
theorem d_X3_thereBits_17 : q_dec prog_5_method_4_code 17 (.getfield 50) 3 20 := ⟨by decide +kernel, rfl⟩
theorem d_X3_thereBits_20 : q_dec prog_5_method_4_code 20 (.ifCond .eq 9) 3 23 := ⟨by decide +kernel, rfl⟩
theorem d_X3_thereBits_23 : q_dec prog_5_method_4_code 23 (.iconst 1) 1 24 := ⟨by decide +kernel, rfl⟩
theorem d_X3_thereBits_24 : q_dec prog_5_method_4_code 24 (.iload_n 2) 1 25 := ⟨by decide +kernel, rfl⟩
theorem d_X3_thereBits_25 : q_dec prog_5_method_4_code 25 (.ishl) 1 26 := ⟨by decide +kernel, rfl⟩
theorem d_X3_thereBits_26 : q_dec prog_5_method_4_code 26 (.goto 4) 3 29 := ⟨by decide +kernel, rfl⟩
theorem d_X3_thereBits_29 : q_dec prog_5_method_4_code 29 (.iconst 0) 1 30 := ⟨by decide +kernel, rfl⟩
theorem d_X3_thereBits_30 : q_dec prog_5_method_4_code 30 (.ior) 1 31 := ⟨by decide +kernel, rfl⟩
theorem d_X3_thereBits_31 : q_dec prog_5_method_4_code 31 (.istore_n 1) 1 32 := ⟨by decide +kernel, rfl⟩
theorem d_X3_thereBits_32 : q_dec prog_5_method_4_code 32 (.iinc 2 1) 3 35 := ⟨by decide +kernel, rfl⟩
theorem d_X3_thereBits_35 : q_dec prog_5_method_4_code 35 (.goto (-31)) 3 38 := ⟨by decide +kernel, rfl⟩
theorem d_X3_thereBits_38 : q_dec prog_5_method_4_code 38 (.iload_n 1) 1 39 := ⟨by decide +kernel, rfl⟩
theorem d_X3_thereBits_39 : q_dec prog_5_method_4_code 39 (.ireturn) 1 40 := ⟨by decide +kernel, rfl⟩
theorem m_X3_thereBits : q_wV y_X3_thereBits prog_5_method_4_code 3 (some .int) 0 := ⟨q_mem 314 (by decide +kernel) (by decide +kernel), q_mem 312 (by decide +kernel) (by decide +kernel), q_mem 313 (by decide +kernel) (by decide +kernel), q_mem 3 (by decide +kernel) (by decide +kernel), by decide +kernel⟩
theorem d_X3_walkersIn_0 : q_dec prog_5_method_5_code 0 (.iconst 0) 1 1 := ⟨by decide +kernel, rfl⟩
theorem d_X3_walkersIn_1 : q_dec prog_5_method_5_code 1 (.istore_n 2) 1 2 := ⟨by decide +kernel, rfl⟩
theorem d_X3_walkersIn_2 : q_dec prog_5_method_5_code 2 (.iconst 0) 1 3 := ⟨by decide +kernel, rfl⟩
theorem d_X3_walkersIn_3 : q_dec prog_5_method_5_code 3 (.istore_n 3) 1 4 := ⟨by decide +kernel, rfl⟩
theorem d_X3_walkersIn_4 : q_dec prog_5_method_5_code 4 (.iload_n 3) 1 5 := ⟨by decide +kernel, rfl⟩
theorem d_X3_walkersIn_5 : q_dec prog_5_method_5_code 5 (.bipush 6) 2 7 := ⟨by decide +kernel, rfl⟩
theorem d_X3_walkersIn_7 : q_dec prog_5_method_5_code 7 (.if_icmp .ge 46) 3 10 := ⟨by decide +kernel, rfl⟩
theorem d_X3_walkersIn_10 : q_dec prog_5_method_5_code 10 (.iload_n 2) 1 11 := ⟨by decide +kernel, rfl⟩
theorem d_X3_walkersIn_11 : q_dec prog_5_method_5_code 11 (.aload_n 0) 1 12 := ⟨by decide +kernel, rfl⟩
theorem d_X3_walkersIn_12 : q_dec prog_5_method_5_code 12 (.getfield 17) 3 15 := ⟨by decide +kernel, rfl⟩
theorem d_X3_walkersIn_15 : q_dec prog_5_method_5_code 15 (.iload_n 3) 1 16 := ⟨by decide +kernel, rfl⟩
theorem d_X3_walkersIn_16 : q_dec prog_5_method_5_code 16 (.aaload) 1 17 := ⟨by decide +kernel, rfl⟩
theorem d_X3_walkersIn_17 : q_dec prog_5_method_5_code 17 (.getfield 50) 3 20 := ⟨by decide +kernel, rfl⟩
theorem d_X3_walkersIn_20 : q_dec prog_5_method_5_code 20 (.ifCond .eq 24) 3 23 := ⟨by decide +kernel, rfl⟩
theorem d_X3_walkersIn_23 : q_dec prog_5_method_5_code 23 (.aload_n 0) 1 24 := ⟨by decide +kernel, rfl⟩
theorem d_X3_walkersIn_24 : q_dec prog_5_method_5_code 24 (.getfield 17) 3 27 := ⟨by decide +kernel, rfl⟩
theorem d_X3_walkersIn_27 : q_dec prog_5_method_5_code 27 (.iload_n 3) 1 28 := ⟨by decide +kernel, rfl⟩
theorem d_X3_walkersIn_28 : q_dec prog_5_method_5_code 28 (.aaload) 1 29 := ⟨by decide +kernel, rfl⟩
theorem d_X3_walkersIn_29 : q_dec prog_5_method_5_code 29 (.getfield 53) 3 32 := ⟨by decide +kernel, rfl⟩
theorem d_X3_walkersIn_32 : q_dec prog_5_method_5_code 32 (.iconst 0) 1 33 := ⟨by decide +kernel, rfl⟩
theorem d_X3_walkersIn_33 : q_dec prog_5_method_5_code 33 (.iaload) 1 34 := ⟨by decide +kernel, rfl⟩
theorem d_X3_walkersIn_34 : q_dec prog_5_method_5_code 34 (.iload_n 1) 1 35 := ⟨by decide +kernel, rfl⟩
theorem d_X3_walkersIn_35 : q_dec prog_5_method_5_code 35 (.if_icmp .ne 9) 3 38 := ⟨by decide +kernel, rfl⟩
theorem d_X3_walkersIn_38 : q_dec prog_5_method_5_code 38 (.iconst 1) 1 39 := ⟨by decide +kernel, rfl⟩
theorem d_X3_walkersIn_39 : q_dec prog_5_method_5_code 39 (.iload_n 3) 1 40 := ⟨by decide +kernel, rfl⟩
theorem d_X3_walkersIn_40 : q_dec prog_5_method_5_code 40 (.ishl) 1 41 := ⟨by decide +kernel, rfl⟩
theorem d_X3_walkersIn_41 : q_dec prog_5_method_5_code 41 (.goto 4) 3 44 := ⟨by decide +kernel, rfl⟩
theorem d_X3_walkersIn_44 : q_dec prog_5_method_5_code 44 (.iconst 0) 1 45 := ⟨by decide +kernel, rfl⟩
theorem d_X3_walkersIn_45 : q_dec prog_5_method_5_code 45 (.ior) 1 46 := ⟨by decide +kernel, rfl⟩
theorem d_X3_walkersIn_46 : q_dec prog_5_method_5_code 46 (.istore_n 2) 1 47 := ⟨by decide +kernel, rfl⟩
theorem d_X3_walkersIn_47 : q_dec prog_5_method_5_code 47 (.iinc 3 1) 3 50 := ⟨by decide +kernel, rfl⟩
theorem d_X3_walkersIn_50 : q_dec prog_5_method_5_code 50 (.goto (-46)) 3 53 := ⟨by decide +kernel, rfl⟩
theorem d_X3_walkersIn_53 : q_dec prog_5_method_5_code 53 (.iload_n 2) 1 54 := ⟨by decide +kernel, rfl⟩
theorem d_X3_walkersIn_54 : q_dec prog_5_method_5_code 54 (.ireturn) 1 55 := ⟨by decide +kernel, rfl⟩
theorem m_X3_walkersIn : q_wV y_X3_walkersIn prog_5_method_5_code 4 (some .int) 1 := ⟨q_mem 422 (by decide +kernel) (by decide +kernel), q_mem 420 (by decide +kernel) (by decide +kernel), q_mem 421 (by decide +kernel) (by decide +kernel), q_mem 3 (by decide +kernel) (by decide +kernel), by decide +kernel⟩
theorem d_X3_otherCell_0 : q_dec prog_5_method_9_code 0 (.aload_n 1) 1 1 := ⟨by decide +kernel, rfl⟩
theorem d_X3_otherCell_1 : q_dec prog_5_method_9_code 1 (.getfield 61) 3 4 := ⟨by decide +kernel, rfl⟩
theorem d_X3_otherCell_4 : q_dec prog_5_method_9_code 4 (.ifCond .eq 8) 3 7 := ⟨by decide +kernel, rfl⟩
theorem d_X3_otherCell_7 : q_dec prog_5_method_9_code 7 (.aload_n 1) 1 8 := ⟨by decide +kernel, rfl⟩
theorem d_X3_otherCell_8 : q_dec prog_5_method_9_code 8 (.getfield 64) 3 11 := ⟨by decide +kernel, rfl⟩
theorem d_X3_otherCell_11 : q_dec prog_5_method_9_code 11 (.ireturn) 1 12 := ⟨by decide +kernel, rfl⟩
theorem d_X3_otherCell_12 : q_dec prog_5_method_9_code 12 (.aload_n 0) 1 13 := ⟨by decide +kernel, rfl⟩
theorem d_X3_otherCell_13 : q_dec prog_5_method_9_code 13 (.getfield 32) 3 16 := ⟨by decide +kernel, rfl⟩
theorem d_X3_otherCell_16 : q_dec prog_5_method_9_code 16 (.ifCond .eq 8) 3 19 := ⟨by decide +kernel, rfl⟩
theorem d_X3_otherCell_19 : q_dec prog_5_method_9_code 19 (.bipush (-6)) 2 21 := ⟨by decide +kernel, rfl⟩
theorem d_X3_otherCell_21 : q_dec prog_5_method_9_code 21 (.goto 12) 3 24 := ⟨by decide +kernel, rfl⟩
theorem d_X3_otherCell_24 : q_dec prog_5_method_9_code 24 (.aload_n 1) 1 25 := ⟨by decide +kernel, rfl⟩
theorem d_X3_otherCell_25 : q_dec prog_5_method_9_code 25 (.getfield 53) 3 28 := ⟨by decide +kernel, rfl⟩
theorem d_X3_otherCell_28 : q_dec prog_5_method_9_code 28 (.aload_n 1) 1 29 := ⟨by decide +kernel, rfl⟩
theorem d_X3_otherCell_29 : q_dec prog_5_method_9_code 29 (.getfield 67) 3 32 := ⟨by decide +kernel, rfl⟩
theorem d_X3_otherCell_32 : q_dec prog_5_method_9_code 32 (.iaload) 1 33 := ⟨by decide +kernel, rfl⟩
theorem d_X3_otherCell_33 : q_dec prog_5_method_9_code 33 (.ireturn) 1 34 := ⟨by decide +kernel, rfl⟩
theorem m_X3_otherCell : q_wV y_X3_otherCell prog_5_method_9_code 2 (some .int) 1 := ⟨q_mem 430 (by decide +kernel) (by decide +kernel), q_mem 428 (by decide +kernel) (by decide +kernel), q_mem 429 (by decide +kernel) (by decide +kernel), q_mem 3 (by decide +kernel) (by decide +kernel), by decide +kernel⟩
theorem d_X3_othersIn_0 : q_dec prog_5_method_6_code 0 (.iconst 0) 1 1 := ⟨by decide +kernel, rfl⟩
theorem d_X3_othersIn_1 : q_dec prog_5_method_6_code 1 (.istore_n 2) 1 2 := ⟨by decide +kernel, rfl⟩
theorem d_X3_othersIn_2 : q_dec prog_5_method_6_code 2 (.iconst 0) 1 3 := ⟨by decide +kernel, rfl⟩
theorem d_X3_othersIn_3 : q_dec prog_5_method_6_code 3 (.istore_n 3) 1 4 := ⟨by decide +kernel, rfl⟩
theorem d_X3_othersIn_4 : q_dec prog_5_method_6_code 4 (.iload_n 3) 1 5 := ⟨by decide +kernel, rfl⟩
theorem d_X3_othersIn_5 : q_dec prog_5_method_6_code 5 (.bipush 6) 2 7 := ⟨by decide +kernel, rfl⟩
theorem d_X3_othersIn_7 : q_dec prog_5_method_6_code 7 (.if_icmp .ge 45) 3 10 := ⟨by decide +kernel, rfl⟩
theorem d_X3_othersIn_10 : q_dec prog_5_method_6_code 10 (.iload_n 2) 1 11 := ⟨by decide +kernel, rfl⟩
theorem d_X3_othersIn_11 : q_dec prog_5_method_6_code 11 (.aload_n 0) 1 12 := ⟨by decide +kernel, rfl⟩
theorem d_X3_othersIn_12 : q_dec prog_5_method_6_code 12 (.getfield 17) 3 15 := ⟨by decide +kernel, rfl⟩
theorem d_X3_othersIn_15 : q_dec prog_5_method_6_code 15 (.iload_n 3) 1 16 := ⟨by decide +kernel, rfl⟩
theorem d_X3_othersIn_16 : q_dec prog_5_method_6_code 16 (.aaload) 1 17 := ⟨by decide +kernel, rfl⟩
theorem d_X3_othersIn_17 : q_dec prog_5_method_6_code 17 (.getfield 50) 3 20 := ⟨by decide +kernel, rfl⟩
theorem d_X3_othersIn_20 : q_dec prog_5_method_6_code 20 (.ifCond .eq 23) 3 23 := ⟨by decide +kernel, rfl⟩
theorem d_X3_othersIn_23 : q_dec prog_5_method_6_code 23 (.aload_n 0) 1 24 := ⟨by decide +kernel, rfl⟩
theorem d_X3_othersIn_24 : q_dec prog_5_method_6_code 24 (.aload_n 0) 1 25 := ⟨by decide +kernel, rfl⟩
theorem d_X3_othersIn_25 : q_dec prog_5_method_6_code 25 (.getfield 17) 3 28 := ⟨by decide +kernel, rfl⟩
theorem d_X3_othersIn_28 : q_dec prog_5_method_6_code 28 (.iload_n 3) 1 29 := ⟨by decide +kernel, rfl⟩
theorem d_X3_othersIn_29 : q_dec prog_5_method_6_code 29 (.aaload) 1 30 := ⟨by decide +kernel, rfl⟩
theorem d_X3_othersIn_30 : q_dec prog_5_method_6_code 30 (.invokevirtual 57) 3 33 := ⟨by decide +kernel, rfl⟩
theorem d_X3_othersIn_33 : q_dec prog_5_method_6_code 33 (.iload_n 1) 1 34 := ⟨by decide +kernel, rfl⟩
theorem d_X3_othersIn_34 : q_dec prog_5_method_6_code 34 (.if_icmp .ne 9) 3 37 := ⟨by decide +kernel, rfl⟩
theorem d_X3_othersIn_37 : q_dec prog_5_method_6_code 37 (.iconst 1) 1 38 := ⟨by decide +kernel, rfl⟩
theorem d_X3_othersIn_38 : q_dec prog_5_method_6_code 38 (.iload_n 3) 1 39 := ⟨by decide +kernel, rfl⟩
theorem d_X3_othersIn_39 : q_dec prog_5_method_6_code 39 (.ishl) 1 40 := ⟨by decide +kernel, rfl⟩
theorem d_X3_othersIn_40 : q_dec prog_5_method_6_code 40 (.goto 4) 3 43 := ⟨by decide +kernel, rfl⟩
theorem d_X3_othersIn_43 : q_dec prog_5_method_6_code 43 (.iconst 0) 1 44 := ⟨by decide +kernel, rfl⟩
theorem d_X3_othersIn_44 : q_dec prog_5_method_6_code 44 (.ior) 1 45 := ⟨by decide +kernel, rfl⟩
theorem d_X3_othersIn_45 : q_dec prog_5_method_6_code 45 (.istore_n 2) 1 46 := ⟨by decide +kernel, rfl⟩
theorem d_X3_othersIn_46 : q_dec prog_5_method_6_code 46 (.iinc 3 1) 3 49 := ⟨by decide +kernel, rfl⟩
theorem d_X3_othersIn_49 : q_dec prog_5_method_6_code 49 (.goto (-45)) 3 52 := ⟨by decide +kernel, rfl⟩
theorem d_X3_othersIn_52 : q_dec prog_5_method_6_code 52 (.iload_n 2) 1 53 := ⟨by decide +kernel, rfl⟩
theorem d_X3_othersIn_53 : q_dec prog_5_method_6_code 53 (.ireturn) 1 54 := ⟨by decide +kernel, rfl⟩
theorem m_X3_othersIn : q_wV y_X3_othersIn prog_5_method_6_code 4 (some .int) 1 := ⟨q_mem 426 (by decide +kernel) (by decide +kernel), q_mem 424 (by decide +kernel) (by decide +kernel), q_mem 425 (by decide +kernel) (by decide +kernel), q_mem 3 (by decide +kernel) (by decide +kernel), by decide +kernel⟩
theorem d_X3_partedCount_0 : q_dec prog_5_method_7_code 0 (.iconst 0) 1 1 := ⟨by decide +kernel, rfl⟩
theorem d_X3_partedCount_1 : q_dec prog_5_method_7_code 1 (.istore_n 1) 1 2 := ⟨by decide +kernel, rfl⟩
theorem d_X3_partedCount_2 : q_dec prog_5_method_7_code 2 (.iconst 0) 1 3 := ⟨by decide +kernel, rfl⟩
theorem d_X3_partedCount_3 : q_dec prog_5_method_7_code 3 (.istore_n 2) 1 4 := ⟨by decide +kernel, rfl⟩
theorem d_X3_partedCount_4 : q_dec prog_5_method_7_code 4 (.iload_n 2) 1 5 := ⟨by decide +kernel, rfl⟩
theorem d_X3_partedCount_5 : q_dec prog_5_method_7_code 5 (.bipush 6) 2 7 := ⟨by decide +kernel, rfl⟩
theorem d_X3_partedCount_7 : q_dec prog_5_method_7_code 7 (.if_icmp .ge 41) 3 10 := ⟨by decide +kernel, rfl⟩
theorem d_X3_partedCount_10 : q_dec prog_5_method_7_code 10 (.iload_n 1) 1 11 := ⟨by decide +kernel, rfl⟩
theorem d_X3_partedCount_11 : q_dec prog_5_method_7_code 11 (.aload_n 0) 1 12 := ⟨by decide +kernel, rfl⟩
theorem d_X3_partedCount_12 : q_dec prog_5_method_7_code 12 (.getfield 17) 3 15 := ⟨by decide +kernel, rfl⟩
theorem d_X3_partedCount_15 : q_dec prog_5_method_7_code 15 (.iload_n 2) 1 16 := ⟨by decide +kernel, rfl⟩
theorem d_X3_partedCount_16 : q_dec prog_5_method_7_code 16 (.aaload) 1 17 := ⟨by decide +kernel, rfl⟩
theorem d_X3_partedCount_17 : q_dec prog_5_method_7_code 17 (.getfield 50) 3 20 := ⟨by decide +kernel, rfl⟩
theorem d_X3_partedCount_20 : q_dec prog_5_method_7_code 20 (.ifCond .eq 19) 3 23 := ⟨by decide +kernel, rfl⟩
theorem d_X3_partedCount_23 : q_dec prog_5_method_7_code 23 (.aload_n 0) 1 24 := ⟨by decide +kernel, rfl⟩
theorem d_X3_partedCount_24 : q_dec prog_5_method_7_code 24 (.getfield 17) 3 27 := ⟨by decide +kernel, rfl⟩
theorem d_X3_partedCount_27 : q_dec prog_5_method_7_code 27 (.iload_n 2) 1 28 := ⟨by decide +kernel, rfl⟩
theorem d_X3_partedCount_28 : q_dec prog_5_method_7_code 28 (.aaload) 1 29 := ⟨by decide +kernel, rfl⟩
theorem d_X3_partedCount_29 : q_dec prog_5_method_7_code 29 (.getfield 61) 3 32 := ⟨by decide +kernel, rfl⟩
theorem d_X3_partedCount_32 : q_dec prog_5_method_7_code 32 (.ifCond .eq 7) 3 35 := ⟨by decide +kernel, rfl⟩
theorem d_X3_partedCount_35 : q_dec prog_5_method_7_code 35 (.iconst 1) 1 36 := ⟨by decide +kernel, rfl⟩
theorem d_X3_partedCount_36 : q_dec prog_5_method_7_code 36 (.goto 4) 3 39 := ⟨by decide +kernel, rfl⟩
theorem d_X3_partedCount_39 : q_dec prog_5_method_7_code 39 (.iconst 0) 1 40 := ⟨by decide +kernel, rfl⟩
theorem d_X3_partedCount_40 : q_dec prog_5_method_7_code 40 (.iadd) 1 41 := ⟨by decide +kernel, rfl⟩
theorem d_X3_partedCount_41 : q_dec prog_5_method_7_code 41 (.istore_n 1) 1 42 := ⟨by decide +kernel, rfl⟩
theorem d_X3_partedCount_42 : q_dec prog_5_method_7_code 42 (.iinc 2 1) 3 45 := ⟨by decide +kernel, rfl⟩
theorem d_X3_partedCount_45 : q_dec prog_5_method_7_code 45 (.goto (-41)) 3 48 := ⟨by decide +kernel, rfl⟩
theorem d_X3_partedCount_48 : q_dec prog_5_method_7_code 48 (.iload_n 1) 1 49 := ⟨by decide +kernel, rfl⟩
theorem d_X3_partedCount_49 : q_dec prog_5_method_7_code 49 (.ireturn) 1 50 := ⟨by decide +kernel, rfl⟩
theorem m_X3_partedCount : q_wV y_X3_partedCount prog_5_method_7_code 3 (some .int) 0 := ⟨q_mem 481 (by decide +kernel) (by decide +kernel), q_mem 479 (by decide +kernel) (by decide +kernel), q_mem 480 (by decide +kernel) (by decide +kernel), q_mem 3 (by decide +kernel) (by decide +kernel), by decide +kernel⟩
theorem d_X3_cellSum_0 : q_dec prog_5_method_8_code 0 (.iconst 0) 1 1 := ⟨by decide +kernel, rfl⟩
theorem d_X3_cellSum_1 : q_dec prog_5_method_8_code 1 (.istore_n 1) 1 2 := ⟨by decide +kernel, rfl⟩
theorem d_X3_cellSum_2 : q_dec prog_5_method_8_code 2 (.iconst 0) 1 3 := ⟨by decide +kernel, rfl⟩
theorem d_X3_cellSum_3 : q_dec prog_5_method_8_code 3 (.istore_n 2) 1 4 := ⟨by decide +kernel, rfl⟩
theorem d_X3_cellSum_4 : q_dec prog_5_method_8_code 4 (.iload_n 2) 1 5 := ⟨by decide +kernel, rfl⟩
theorem d_X3_cellSum_5 : q_dec prog_5_method_8_code 5 (.bipush 6) 2 7 := ⟨by decide +kernel, rfl⟩
theorem d_X3_cellSum_7 : q_dec prog_5_method_8_code 7 (.if_icmp .ge 39) 3 10 := ⟨by decide +kernel, rfl⟩
theorem d_X3_cellSum_10 : q_dec prog_5_method_8_code 10 (.iload_n 1) 1 11 := ⟨by decide +kernel, rfl⟩
theorem d_X3_cellSum_11 : q_dec prog_5_method_8_code 11 (.aload_n 0) 1 12 := ⟨by decide +kernel, rfl⟩
theorem d_X3_cellSum_12 : q_dec prog_5_method_8_code 12 (.getfield 17) 3 15 := ⟨by decide +kernel, rfl⟩
theorem d_X3_cellSum_15 : q_dec prog_5_method_8_code 15 (.iload_n 2) 1 16 := ⟨by decide +kernel, rfl⟩
theorem d_X3_cellSum_16 : q_dec prog_5_method_8_code 16 (.aaload) 1 17 := ⟨by decide +kernel, rfl⟩
theorem d_X3_cellSum_17 : q_dec prog_5_method_8_code 17 (.getfield 50) 3 20 := ⟨by decide +kernel, rfl⟩
theorem d_X3_cellSum_20 : q_dec prog_5_method_8_code 20 (.ifCond .eq 17) 3 23 := ⟨by decide +kernel, rfl⟩
theorem d_X3_cellSum_23 : q_dec prog_5_method_8_code 23 (.aload_n 0) 1 24 := ⟨by decide +kernel, rfl⟩
theorem d_X3_cellSum_24 : q_dec prog_5_method_8_code 24 (.getfield 17) 3 27 := ⟨by decide +kernel, rfl⟩
theorem d_X3_cellSum_27 : q_dec prog_5_method_8_code 27 (.iload_n 2) 1 28 := ⟨by decide +kernel, rfl⟩
theorem d_X3_cellSum_28 : q_dec prog_5_method_8_code 28 (.aaload) 1 29 := ⟨by decide +kernel, rfl⟩
theorem d_X3_cellSum_29 : q_dec prog_5_method_8_code 29 (.getfield 53) 3 32 := ⟨by decide +kernel, rfl⟩
theorem d_X3_cellSum_32 : q_dec prog_5_method_8_code 32 (.iconst 0) 1 33 := ⟨by decide +kernel, rfl⟩
theorem d_X3_cellSum_33 : q_dec prog_5_method_8_code 33 (.iaload) 1 34 := ⟨by decide +kernel, rfl⟩
theorem d_X3_cellSum_34 : q_dec prog_5_method_8_code 34 (.goto 4) 3 37 := ⟨by decide +kernel, rfl⟩
theorem d_X3_cellSum_37 : q_dec prog_5_method_8_code 37 (.iconst 0) 1 38 := ⟨by decide +kernel, rfl⟩
theorem d_X3_cellSum_38 : q_dec prog_5_method_8_code 38 (.iadd) 1 39 := ⟨by decide +kernel, rfl⟩
theorem d_X3_cellSum_39 : q_dec prog_5_method_8_code 39 (.istore_n 1) 1 40 := ⟨by decide +kernel, rfl⟩
theorem d_X3_cellSum_40 : q_dec prog_5_method_8_code 40 (.iinc 2 1) 3 43 := ⟨by decide +kernel, rfl⟩
theorem d_X3_cellSum_43 : q_dec prog_5_method_8_code 43 (.goto (-39)) 3 46 := ⟨by decide +kernel, rfl⟩
theorem d_X3_cellSum_46 : q_dec prog_5_method_8_code 46 (.iload_n 1) 1 47 := ⟨by decide +kernel, rfl⟩
theorem d_X3_cellSum_47 : q_dec prog_5_method_8_code 47 (.ireturn) 1 48 := ⟨by decide +kernel, rfl⟩
theorem m_X3_cellSum : q_wV y_X3_cellSum prog_5_method_8_code 3 (some .int) 0 := ⟨q_mem 662 (by decide +kernel) (by decide +kernel), q_mem 660 (by decide +kernel) (by decide +kernel), q_mem 661 (by decide +kernel) (by decide +kernel), q_mem 3 (by decide +kernel) (by decide +kernel), by decide +kernel⟩
theorem d_X3_isHeld_0 : q_dec prog_5_method_10_code 0 (.aload_n 0) 1 1 := ⟨by decide +kernel, rfl⟩
theorem d_X3_isHeld_1 : q_dec prog_5_method_10_code 1 (.getfield 32) 3 4 := ⟨by decide +kernel, rfl⟩
theorem d_X3_isHeld_4 : q_dec prog_5_method_10_code 4 (.ifCond .ne 14) 3 7 := ⟨by decide +kernel, rfl⟩
theorem d_X3_isHeld_7 : q_dec prog_5_method_10_code 7 (.aload_n 1) 1 8 := ⟨by decide +kernel, rfl⟩
theorem d_X3_isHeld_8 : q_dec prog_5_method_10_code 8 (.getfield 61) 3 11 := ⟨by decide +kernel, rfl⟩
theorem d_X3_isHeld_11 : q_dec prog_5_method_10_code 11 (.ifCond .ne 7) 3 14 := ⟨by decide +kernel, rfl⟩
theorem d_X3_isHeld_14 : q_dec prog_5_method_10_code 14 (.iconst 1) 1 15 := ⟨by decide +kernel, rfl⟩
theorem d_X3_isHeld_15 : q_dec prog_5_method_10_code 15 (.goto 4) 3 18 := ⟨by decide +kernel, rfl⟩
theorem d_X3_isHeld_18 : q_dec prog_5_method_10_code 18 (.iconst 0) 1 19 := ⟨by decide +kernel, rfl⟩
theorem d_X3_isHeld_19 : q_dec prog_5_method_10_code 19 (.ireturn) 1 20 := ⟨by decide +kernel, rfl⟩
theorem m_X3_isHeld : q_wV y_X3_isHeld prog_5_method_10_code 2 (some .boolean) 1 := ⟨q_mem 411 (by decide +kernel) (by decide +kernel), q_mem 409 (by decide +kernel) (by decide +kernel), q_mem 410 (by decide +kernel) (by decide +kernel), q_mem 3 (by decide +kernel) (by decide +kernel), by decide +kernel⟩
theorem d_X3_isStoneInReach_0 : q_dec prog_5_method_12_code 0 (.aload_n 1) 1 1 := ⟨by decide +kernel, rfl⟩
theorem d_X3_isStoneInReach_1 : q_dec prog_5_method_12_code 1 (.getfield 61) 3 4 := ⟨by decide +kernel, rfl⟩
theorem d_X3_isStoneInReach_4 : q_dec prog_5_method_12_code 4 (.ifCond .eq 24) 3 7 := ⟨by decide +kernel, rfl⟩
theorem d_X3_isStoneInReach_7 : q_dec prog_5_method_12_code 7 (.aload_n 1) 1 8 := ⟨by decide +kernel, rfl⟩
theorem d_X3_isStoneInReach_8 : q_dec prog_5_method_12_code 8 (.getfield 64) 3 11 := ⟨by decide +kernel, rfl⟩
theorem d_X3_isStoneInReach_11 : q_dec prog_5_method_12_code 11 (.aload_n 1) 1 12 := ⟨by decide +kernel, rfl⟩
theorem d_X3_isStoneInReach_12 : q_dec prog_5_method_12_code 12 (.getfield 53) 3 15 := ⟨by decide +kernel, rfl⟩
theorem d_X3_isStoneInReach_15 : q_dec prog_5_method_12_code 15 (.iconst 0) 1 16 := ⟨by decide +kernel, rfl⟩
theorem d_X3_isStoneInReach_16 : q_dec prog_5_method_12_code 16 (.iaload) 1 17 := ⟨by decide +kernel, rfl⟩
theorem d_X3_isStoneInReach_17 : q_dec prog_5_method_12_code 17 (.if_icmp .ne 7) 3 20 := ⟨by decide +kernel, rfl⟩
theorem d_X3_isStoneInReach_20 : q_dec prog_5_method_12_code 20 (.iconst 1) 1 21 := ⟨by decide +kernel, rfl⟩
theorem d_X3_isStoneInReach_21 : q_dec prog_5_method_12_code 21 (.goto 19) 3 24 := ⟨by decide +kernel, rfl⟩
theorem d_X3_isStoneInReach_24 : q_dec prog_5_method_12_code 24 (.iconst 0) 1 25 := ⟨by decide +kernel, rfl⟩
theorem d_X3_isStoneInReach_25 : q_dec prog_5_method_12_code 25 (.goto 15) 3 28 := ⟨by decide +kernel, rfl⟩
theorem d_X3_isStoneInReach_28 : q_dec prog_5_method_12_code 28 (.aload_n 0) 1 29 := ⟨by decide +kernel, rfl⟩
theorem d_X3_isStoneInReach_29 : q_dec prog_5_method_12_code 29 (.getfield 32) 3 32 := ⟨by decide +kernel, rfl⟩
theorem d_X3_isStoneInReach_32 : q_dec prog_5_method_12_code 32 (.ifCond .ne 7) 3 35 := ⟨by decide +kernel, rfl⟩
theorem d_X3_isStoneInReach_35 : q_dec prog_5_method_12_code 35 (.iconst 1) 1 36 := ⟨by decide +kernel, rfl⟩
theorem d_X3_isStoneInReach_36 : q_dec prog_5_method_12_code 36 (.goto 4) 3 39 := ⟨by decide +kernel, rfl⟩
theorem d_X3_isStoneInReach_39 : q_dec prog_5_method_12_code 39 (.iconst 0) 1 40 := ⟨by decide +kernel, rfl⟩
theorem d_X3_isStoneInReach_40 : q_dec prog_5_method_12_code 40 (.ireturn) 1 41 := ⟨by decide +kernel, rfl⟩
theorem m_X3_isStoneInReach : q_wV y_X3_isStoneInReach prog_5_method_12_code 2 (some .boolean) 1 := ⟨q_mem 402 (by decide +kernel) (by decide +kernel), q_mem 401 (by decide +kernel) (by decide +kernel), q_memS (n := 6) 1 (by decide +kernel), q_mem 3 (by decide +kernel) (by decide +kernel), by decide +kernel⟩
theorem d_X3_whyNoStep_0 : q_dec prog_5_method_13_code 0 (.iload_n 2) 1 1 := ⟨by decide +kernel, rfl⟩
theorem d_X3_whyNoStep_1 : q_dec prog_5_method_13_code 1 (.invokestatic 82) 3 4 := ⟨by decide +kernel, rfl⟩
theorem d_X3_whyNoStep_4 : q_dec prog_5_method_13_code 4 (.ifCond .ne 5) 3 7 := ⟨by decide +kernel, rfl⟩
theorem d_X3_whyNoStep_7 : q_dec prog_5_method_13_code 7 (.iconst 2) 1 8 := ⟨by decide +kernel, rfl⟩
theorem d_X3_whyNoStep_8 : q_dec prog_5_method_13_code 8 (.ireturn) 1 9 := ⟨by decide +kernel, rfl⟩
theorem d_X3_whyNoStep_9 : q_dec prog_5_method_13_code 9 (.aload_n 0) 1 10 := ⟨by decide +kernel, rfl⟩
theorem d_X3_whyNoStep_10 : q_dec prog_5_method_13_code 10 (.getfield 17) 3 13 := ⟨by decide +kernel, rfl⟩
theorem d_X3_whyNoStep_13 : q_dec prog_5_method_13_code 13 (.iload_n 1) 1 14 := ⟨by decide +kernel, rfl⟩
theorem d_X3_whyNoStep_14 : q_dec prog_5_method_13_code 14 (.aaload) 1 15 := ⟨by decide +kernel, rfl⟩
theorem d_X3_whyNoStep_15 : q_dec prog_5_method_13_code 15 (.astore_n 3) 1 16 := ⟨by decide +kernel, rfl⟩
theorem d_X3_whyNoStep_16 : q_dec prog_5_method_13_code 16 (.aload_n 0) 1 17 := ⟨by decide +kernel, rfl⟩
theorem d_X3_whyNoStep_17 : q_dec prog_5_method_13_code 17 (.aload_n 3) 1 18 := ⟨by decide +kernel, rfl⟩
theorem d_X3_whyNoStep_18 : q_dec prog_5_method_13_code 18 (.invokevirtual 85) 3 21 := ⟨by decide +kernel, rfl⟩
theorem d_X3_whyNoStep_21 : q_dec prog_5_method_13_code 21 (.ifCond .eq 22) 3 24 := ⟨by decide +kernel, rfl⟩
theorem d_X3_whyNoStep_24 : q_dec prog_5_method_13_code 24 (.iload_n 2) 1 25 := ⟨by decide +kernel, rfl⟩
theorem d_X3_whyNoStep_25 : q_dec prog_5_method_13_code 25 (.aload_n 3) 1 26 := ⟨by decide +kernel, rfl⟩
theorem d_X3_whyNoStep_26 : q_dec prog_5_method_13_code 26 (.iload_n 2) 1 27 := ⟨by decide +kernel, rfl⟩
theorem d_X3_whyNoStep_27 : q_dec prog_5_method_13_code 27 (.invokevirtual 88) 3 30 := ⟨by decide +kernel, rfl⟩
theorem d_X3_whyNoStep_30 : q_dec prog_5_method_13_code 30 (.isub) 1 31 := ⟨by decide +kernel, rfl⟩
theorem d_X3_whyNoStep_31 : q_dec prog_5_method_13_code 31 (.invokestatic 92) 3 34 := ⟨by decide +kernel, rfl⟩
theorem d_X3_whyNoStep_34 : q_dec prog_5_method_13_code 34 (.aload_n 0) 1 35 := ⟨by decide +kernel, rfl⟩
theorem d_X3_whyNoStep_35 : q_dec prog_5_method_13_code 35 (.getfield 9) 3 38 := ⟨by decide +kernel, rfl⟩
theorem d_X3_whyNoStep_38 : q_dec prog_5_method_13_code 38 (.if_icmp .le 5) 3 41 := ⟨by decide +kernel, rfl⟩
theorem d_X3_whyNoStep_41 : q_dec prog_5_method_13_code 41 (.iconst 3) 1 42 := ⟨by decide +kernel, rfl⟩
theorem d_X3_whyNoStep_42 : q_dec prog_5_method_13_code 42 (.ireturn) 1 43 := ⟨by decide +kernel, rfl⟩
theorem d_X3_whyNoStep_43 : q_dec prog_5_method_13_code 43 (.aload_n 0) 1 44 := ⟨by decide +kernel, rfl⟩
theorem d_X3_whyNoStep_44 : q_dec prog_5_method_13_code 44 (.getfield 29) 3 47 := ⟨by decide +kernel, rfl⟩
theorem d_X3_whyNoStep_47 : q_dec prog_5_method_13_code 47 (.iload_n 2) 1 48 := ⟨by decide +kernel, rfl⟩
theorem d_X3_whyNoStep_48 : q_dec prog_5_method_13_code 48 (.ishr) 1 49 := ⟨by decide +kernel, rfl⟩
theorem d_X3_whyNoStep_49 : q_dec prog_5_method_13_code 49 (.iconst 1) 1 50 := ⟨by decide +kernel, rfl⟩
theorem d_X3_whyNoStep_50 : q_dec prog_5_method_13_code 50 (.iand) 1 51 := ⟨by decide +kernel, rfl⟩
theorem d_X3_whyNoStep_51 : q_dec prog_5_method_13_code 51 (.iconst 1) 1 52 := ⟨by decide +kernel, rfl⟩
theorem d_X3_whyNoStep_52 : q_dec prog_5_method_13_code 52 (.if_icmp .ne 7) 3 55 := ⟨by decide +kernel, rfl⟩
theorem d_X3_whyNoStep_55 : q_dec prog_5_method_13_code 55 (.iconst 1) 1 56 := ⟨by decide +kernel, rfl⟩
theorem d_X3_whyNoStep_56 : q_dec prog_5_method_13_code 56 (.goto 4) 3 59 := ⟨by decide +kernel, rfl⟩
theorem d_X3_whyNoStep_59 : q_dec prog_5_method_13_code 59 (.iconst 0) 1 60 := ⟨by decide +kernel, rfl⟩
theorem d_X3_whyNoStep_60 : q_dec prog_5_method_13_code 60 (.istore 4) 2 62 := ⟨by decide +kernel, rfl⟩
theorem d_X3_whyNoStep_62 : q_dec prog_5_method_13_code 62 (.aload_n 0) 1 63 := ⟨by decide +kernel, rfl⟩
theorem d_X3_whyNoStep_63 : q_dec prog_5_method_13_code 63 (.iload_n 2) 1 64 := ⟨by decide +kernel, rfl⟩
theorem d_X3_whyNoStep_64 : q_dec prog_5_method_13_code 64 (.invokevirtual 97) 3 67 := ⟨by decide +kernel, rfl⟩
theorem d_X3_whyNoStep_67 : q_dec prog_5_method_13_code 67 (.aload_n 0) 1 68 := ⟨by decide +kernel, rfl⟩
theorem d_X3_whyNoStep_68 : q_dec prog_5_method_13_code 68 (.iload_n 2) 1 69 := ⟨by decide +kernel, rfl⟩
theorem d_X3_whyNoStep_69 : q_dec prog_5_method_13_code 69 (.invokevirtual 100) 3 72 := ⟨by decide +kernel, rfl⟩
theorem d_X3_whyNoStep_72 : q_dec prog_5_method_13_code 72 (.ior) 1 73 := ⟨by decide +kernel, rfl⟩
theorem d_X3_whyNoStep_73 : q_dec prog_5_method_13_code 73 (.iconst 1) 1 74 := ⟨by decide +kernel, rfl⟩
theorem d_X3_whyNoStep_74 : q_dec prog_5_method_13_code 74 (.iload_n 1) 1 75 := ⟨by decide +kernel, rfl⟩
theorem d_X3_whyNoStep_75 : q_dec prog_5_method_13_code 75 (.ishl) 1 76 := ⟨by decide +kernel, rfl⟩
theorem d_X3_whyNoStep_76 : q_dec prog_5_method_13_code 76 (.iconst (-1)) 1 77 := ⟨by decide +kernel, rfl⟩
theorem d_X3_whyNoStep_77 : q_dec prog_5_method_13_code 77 (.ixor) 1 78 := ⟨by decide +kernel, rfl⟩
theorem d_X3_whyNoStep_78 : q_dec prog_5_method_13_code 78 (.iand) 1 79 := ⟨by decide +kernel, rfl⟩
theorem d_X3_whyNoStep_79 : q_dec prog_5_method_13_code 79 (.ifCond .eq 7) 3 82 := ⟨by decide +kernel, rfl⟩
theorem d_X3_whyNoStep_82 : q_dec prog_5_method_13_code 82 (.iconst 1) 1 83 := ⟨by decide +kernel, rfl⟩
theorem d_X3_whyNoStep_83 : q_dec prog_5_method_13_code 83 (.goto 4) 3 86 := ⟨by decide +kernel, rfl⟩
theorem d_X3_whyNoStep_86 : q_dec prog_5_method_13_code 86 (.iconst 0) 1 87 := ⟨by decide +kernel, rfl⟩
theorem d_X3_whyNoStep_87 : q_dec prog_5_method_13_code 87 (.istore 5) 2 89 := ⟨by decide +kernel, rfl⟩
theorem d_X3_whyNoStep_89 : q_dec prog_5_method_13_code 89 (.iload 4) 2 91 := ⟨by decide +kernel, rfl⟩
theorem d_X3_whyNoStep_91 : q_dec prog_5_method_13_code 91 (.ifCond .eq 12) 3 94 := ⟨by decide +kernel, rfl⟩
theorem d_X3_whyNoStep_94 : q_dec prog_5_method_13_code 94 (.iload 5) 2 96 := ⟨by decide +kernel, rfl⟩
theorem d_X3_whyNoStep_96 : q_dec prog_5_method_13_code 96 (.ifCond .eq 7) 3 99 := ⟨by decide +kernel, rfl⟩
theorem d_X3_whyNoStep_99 : q_dec prog_5_method_13_code 99 (.iconst 4) 1 100 := ⟨by decide +kernel, rfl⟩
theorem d_X3_whyNoStep_100 : q_dec prog_5_method_13_code 100 (.goto 4) 3 103 := ⟨by decide +kernel, rfl⟩
theorem d_X3_whyNoStep_103 : q_dec prog_5_method_13_code 103 (.iconst 0) 1 104 := ⟨by decide +kernel, rfl⟩
theorem d_X3_whyNoStep_104 : q_dec prog_5_method_13_code 104 (.ireturn) 1 105 := ⟨by decide +kernel, rfl⟩
theorem m_X3_whyNoStep : q_wV y_X3_whyNoStep prog_5_method_13_code 6 (some .int) 2 := ⟨q_mem 406 (by decide +kernel) (by decide +kernel), q_mem 405 (by decide +kernel) (by decide +kernel), q_memS (n := 6) 2 (by decide +kernel), q_mem 3 (by decide +kernel) (by decide +kernel), by decide +kernel⟩
theorem d_X3_whyNot_0 : q_dec prog_5_method_11_code 0 (.iload_n 2) 1 1 := ⟨by decide +kernel, rfl⟩
theorem d_X3_whyNot_1 : q_dec prog_5_method_11_code 1 (.bipush 126) 2 3 := ⟨by decide +kernel, rfl⟩
theorem d_X3_whyNot_3 : q_dec prog_5_method_11_code 3 (.if_icmp .ne 5) 3 6 := ⟨by decide +kernel, rfl⟩
theorem d_X3_whyNot_6 : q_dec prog_5_method_11_code 6 (.iconst 0) 1 7 := ⟨by decide +kernel, rfl⟩
theorem d_X3_whyNot_7 : q_dec prog_5_method_11_code 7 (.ireturn) 1 8 := ⟨by decide +kernel, rfl⟩
theorem d_X3_whyNot_8 : q_dec prog_5_method_11_code 8 (.iload_n 2) 1 9 := ⟨by decide +kernel, rfl⟩
theorem d_X3_whyNot_9 : q_dec prog_5_method_11_code 9 (.bipush 46) 2 11 := ⟨by decide +kernel, rfl⟩
theorem d_X3_whyNot_11 : q_dec prog_5_method_11_code 11 (.if_icmp .ne 20) 3 14 := ⟨by decide +kernel, rfl⟩
theorem d_X3_whyNot_14 : q_dec prog_5_method_11_code 14 (.aload_n 0) 1 15 := ⟨by decide +kernel, rfl⟩
theorem d_X3_whyNot_15 : q_dec prog_5_method_11_code 15 (.getfield 36) 3 18 := ⟨by decide +kernel, rfl⟩
theorem d_X3_whyNot_18 : q_dec prog_5_method_11_code 18 (.sipush 999) 3 21 := ⟨by decide +kernel, rfl⟩
theorem d_X3_whyNot_21 : q_dec prog_5_method_11_code 21 (.if_icmp .lt 8) 3 24 := ⟨by decide +kernel, rfl⟩
theorem d_X3_whyNot_24 : q_dec prog_5_method_11_code 24 (.bipush 6) 2 26 := ⟨by decide +kernel, rfl⟩
theorem d_X3_whyNot_26 : q_dec prog_5_method_11_code 26 (.goto 4) 3 29 := ⟨by decide +kernel, rfl⟩
theorem d_X3_whyNot_29 : q_dec prog_5_method_11_code 29 (.iconst 0) 1 30 := ⟨by decide +kernel, rfl⟩
theorem d_X3_whyNot_30 : q_dec prog_5_method_11_code 30 (.ireturn) 1 31 := ⟨by decide +kernel, rfl⟩
theorem d_X3_whyNot_31 : q_dec prog_5_method_11_code 31 (.aload_n 0) 1 32 := ⟨by decide +kernel, rfl⟩
theorem d_X3_whyNot_32 : q_dec prog_5_method_11_code 32 (.iload_n 1) 1 33 := ⟨by decide +kernel, rfl⟩
theorem d_X3_whyNot_33 : q_dec prog_5_method_11_code 33 (.invokevirtual 70) 3 36 := ⟨by decide +kernel, rfl⟩
theorem d_X3_whyNot_36 : q_dec prog_5_method_11_code 36 (.ifCond .ne 5) 3 39 := ⟨by decide +kernel, rfl⟩
theorem d_X3_whyNot_39 : q_dec prog_5_method_11_code 39 (.iconst 1) 1 40 := ⟨by decide +kernel, rfl⟩
theorem d_X3_whyNot_40 : q_dec prog_5_method_11_code 40 (.ireturn) 1 41 := ⟨by decide +kernel, rfl⟩
theorem d_X3_whyNot_41 : q_dec prog_5_method_11_code 41 (.iload_n 2) 1 42 := ⟨by decide +kernel, rfl⟩
theorem d_X3_whyNot_42 : q_dec prog_5_method_11_code 42 (.bipush 42) 2 44 := ⟨by decide +kernel, rfl⟩
theorem d_X3_whyNot_44 : q_dec prog_5_method_11_code 44 (.if_icmp .ne 22) 3 47 := ⟨by decide +kernel, rfl⟩
theorem d_X3_whyNot_47 : q_dec prog_5_method_11_code 47 (.aload_n 0) 1 48 := ⟨by decide +kernel, rfl⟩
theorem d_X3_whyNot_48 : q_dec prog_5_method_11_code 48 (.aload_n 0) 1 49 := ⟨by decide +kernel, rfl⟩
theorem d_X3_whyNot_49 : q_dec prog_5_method_11_code 49 (.getfield 17) 3 52 := ⟨by decide +kernel, rfl⟩
theorem d_X3_whyNot_52 : q_dec prog_5_method_11_code 52 (.iload_n 1) 1 53 := ⟨by decide +kernel, rfl⟩
theorem d_X3_whyNot_53 : q_dec prog_5_method_11_code 53 (.aaload) 1 54 := ⟨by decide +kernel, rfl⟩
theorem d_X3_whyNot_54 : q_dec prog_5_method_11_code 54 (.invokevirtual 74) 3 57 := ⟨by decide +kernel, rfl⟩
theorem d_X3_whyNot_57 : q_dec prog_5_method_11_code 57 (.ifCond .eq 7) 3 60 := ⟨by decide +kernel, rfl⟩
theorem d_X3_whyNot_60 : q_dec prog_5_method_11_code 60 (.iconst 0) 1 61 := ⟨by decide +kernel, rfl⟩
theorem d_X3_whyNot_61 : q_dec prog_5_method_11_code 61 (.goto 4) 3 64 := ⟨by decide +kernel, rfl⟩
theorem d_X3_whyNot_64 : q_dec prog_5_method_11_code 64 (.iconst 5) 1 65 := ⟨by decide +kernel, rfl⟩
theorem d_X3_whyNot_65 : q_dec prog_5_method_11_code 65 (.ireturn) 1 66 := ⟨by decide +kernel, rfl⟩
theorem d_X3_whyNot_66 : q_dec prog_5_method_11_code 66 (.iload_n 2) 1 67 := ⟨by decide +kernel, rfl⟩
theorem d_X3_whyNot_67 : q_dec prog_5_method_11_code 67 (.bipush 61) 2 69 := ⟨by decide +kernel, rfl⟩
theorem d_X3_whyNot_69 : q_dec prog_5_method_11_code 69 (.if_icmp .ne 5) 3 72 := ⟨by decide +kernel, rfl⟩
theorem d_X3_whyNot_72 : q_dec prog_5_method_11_code 72 (.iconst 0) 1 73 := ⟨by decide +kernel, rfl⟩
theorem d_X3_whyNot_73 : q_dec prog_5_method_11_code 73 (.ireturn) 1 74 := ⟨by decide +kernel, rfl⟩
theorem d_X3_whyNot_74 : q_dec prog_5_method_11_code 74 (.aload_n 0) 1 75 := ⟨by decide +kernel, rfl⟩
theorem d_X3_whyNot_75 : q_dec prog_5_method_11_code 75 (.iload_n 1) 1 76 := ⟨by decide +kernel, rfl⟩
theorem d_X3_whyNot_76 : q_dec prog_5_method_11_code 76 (.aload_n 0) 1 77 := ⟨by decide +kernel, rfl⟩
theorem d_X3_whyNot_77 : q_dec prog_5_method_11_code 77 (.getfield 17) 3 80 := ⟨by decide +kernel, rfl⟩
theorem d_X3_whyNot_80 : q_dec prog_5_method_11_code 80 (.iload_n 1) 1 81 := ⟨by decide +kernel, rfl⟩
theorem d_X3_whyNot_81 : q_dec prog_5_method_11_code 81 (.aaload) 1 82 := ⟨by decide +kernel, rfl⟩
theorem d_X3_whyNot_82 : q_dec prog_5_method_11_code 82 (.getfield 53) 3 85 := ⟨by decide +kernel, rfl⟩
theorem d_X3_whyNot_85 : q_dec prog_5_method_11_code 85 (.iconst 0) 1 86 := ⟨by decide +kernel, rfl⟩
theorem d_X3_whyNot_86 : q_dec prog_5_method_11_code 86 (.iaload) 1 87 := ⟨by decide +kernel, rfl⟩
theorem d_X3_whyNot_87 : q_dec prog_5_method_11_code 87 (.iload_n 2) 1 88 := ⟨by decide +kernel, rfl⟩
theorem d_X3_whyNot_88 : q_dec prog_5_method_11_code 88 (.bipush 62) 2 90 := ⟨by decide +kernel, rfl⟩
theorem d_X3_whyNot_90 : q_dec prog_5_method_11_code 90 (.if_icmp .ne 7) 3 93 := ⟨by decide +kernel, rfl⟩
theorem d_X3_whyNot_93 : q_dec prog_5_method_11_code 93 (.iconst 1) 1 94 := ⟨by decide +kernel, rfl⟩
theorem d_X3_whyNot_94 : q_dec prog_5_method_11_code 94 (.goto 4) 3 97 := ⟨by decide +kernel, rfl⟩
theorem d_X3_whyNot_97 : q_dec prog_5_method_11_code 97 (.iconst (-1)) 1 98 := ⟨by decide +kernel, rfl⟩
theorem d_X3_whyNot_98 : q_dec prog_5_method_11_code 98 (.iadd) 1 99 := ⟨by decide +kernel, rfl⟩
theorem d_X3_whyNot_99 : q_dec prog_5_method_11_code 99 (.invokevirtual 78) 3 102 := ⟨by decide +kernel, rfl⟩
theorem d_X3_whyNot_102 : q_dec prog_5_method_11_code 102 (.ireturn) 1 103 := ⟨by decide +kernel, rfl⟩
theorem m_X3_whyNot : q_wV y_X3_whyNot prog_5_method_11_code 3 (some .int) 2 := ⟨q_mem 397 (by decide +kernel) (by decide +kernel), q_mem 395 (by decide +kernel) (by decide +kernel), q_mem 396 (by decide +kernel) (by decide +kernel), q_mem 3 (by decide +kernel) (by decide +kernel), by decide +kernel⟩
theorem d_X3_turnWind_0 : q_dec prog_5_method_16_code 0 (.aload_n 0) 1 1 := ⟨by decide +kernel, rfl⟩
theorem d_X3_turnWind_1 : q_dec prog_5_method_16_code 1 (.aload_n 0) 1 2 := ⟨by decide +kernel, rfl⟩
theorem d_X3_turnWind_2 : q_dec prog_5_method_16_code 2 (.getfield 32) 3 5 := ⟨by decide +kernel, rfl⟩
theorem d_X3_turnWind_5 : q_dec prog_5_method_16_code 5 (.ifCond .ne 7) 3 8 := ⟨by decide +kernel, rfl⟩
theorem d_X3_turnWind_8 : q_dec prog_5_method_16_code 8 (.iconst 1) 1 9 := ⟨by decide +kernel, rfl⟩
theorem d_X3_turnWind_9 : q_dec prog_5_method_16_code 9 (.goto 4) 3 12 := ⟨by decide +kernel, rfl⟩
theorem d_X3_turnWind_12 : q_dec prog_5_method_16_code 12 (.iconst 0) 1 13 := ⟨by decide +kernel, rfl⟩
theorem d_X3_turnWind_13 : q_dec prog_5_method_16_code 13 (.putfield 32) 3 16 := ⟨by decide +kernel, rfl⟩
theorem d_X3_turnWind_16 : q_dec prog_5_method_16_code 16 (.iconst 0) 1 17 := ⟨by decide +kernel, rfl⟩
theorem d_X3_turnWind_17 : q_dec prog_5_method_16_code 17 (.istore_n 1) 1 18 := ⟨by decide +kernel, rfl⟩
theorem d_X3_turnWind_18 : q_dec prog_5_method_16_code 18 (.iload_n 1) 1 19 := ⟨by decide +kernel, rfl⟩
theorem d_X3_turnWind_19 : q_dec prog_5_method_16_code 19 (.bipush 6) 2 21 := ⟨by decide +kernel, rfl⟩
theorem d_X3_turnWind_21 : q_dec prog_5_method_16_code 21 (.if_icmp .ge 41) 3 24 := ⟨by decide +kernel, rfl⟩
theorem d_X3_turnWind_24 : q_dec prog_5_method_16_code 24 (.aload_n 0) 1 25 := ⟨by decide +kernel, rfl⟩
theorem d_X3_turnWind_25 : q_dec prog_5_method_16_code 25 (.getfield 17) 3 28 := ⟨by decide +kernel, rfl⟩
theorem d_X3_turnWind_28 : q_dec prog_5_method_16_code 28 (.iload_n 1) 1 29 := ⟨by decide +kernel, rfl⟩
theorem d_X3_turnWind_29 : q_dec prog_5_method_16_code 29 (.aaload) 1 30 := ⟨by decide +kernel, rfl⟩
theorem d_X3_turnWind_30 : q_dec prog_5_method_16_code 30 (.getfield 61) 3 33 := ⟨by decide +kernel, rfl⟩
theorem d_X3_turnWind_33 : q_dec prog_5_method_16_code 33 (.ifCond .ne 23) 3 36 := ⟨by decide +kernel, rfl⟩
theorem d_X3_turnWind_36 : q_dec prog_5_method_16_code 36 (.aload_n 0) 1 37 := ⟨by decide +kernel, rfl⟩
theorem d_X3_turnWind_37 : q_dec prog_5_method_16_code 37 (.getfield 17) 3 40 := ⟨by decide +kernel, rfl⟩
theorem d_X3_turnWind_40 : q_dec prog_5_method_16_code 40 (.iload_n 1) 1 41 := ⟨by decide +kernel, rfl⟩
theorem d_X3_turnWind_41 : q_dec prog_5_method_16_code 41 (.aaload) 1 42 := ⟨by decide +kernel, rfl⟩
theorem d_X3_turnWind_42 : q_dec prog_5_method_16_code 42 (.aload_n 0) 1 43 := ⟨by decide +kernel, rfl⟩
theorem d_X3_turnWind_43 : q_dec prog_5_method_16_code 43 (.getfield 17) 3 46 := ⟨by decide +kernel, rfl⟩
theorem d_X3_turnWind_46 : q_dec prog_5_method_16_code 46 (.iload_n 1) 1 47 := ⟨by decide +kernel, rfl⟩
theorem d_X3_turnWind_47 : q_dec prog_5_method_16_code 47 (.aaload) 1 48 := ⟨by decide +kernel, rfl⟩
theorem d_X3_turnWind_48 : q_dec prog_5_method_16_code 48 (.getfield 53) 3 51 := ⟨by decide +kernel, rfl⟩
theorem d_X3_turnWind_51 : q_dec prog_5_method_16_code 51 (.iconst 0) 1 52 := ⟨by decide +kernel, rfl⟩
theorem d_X3_turnWind_52 : q_dec prog_5_method_16_code 52 (.iaload) 1 53 := ⟨by decide +kernel, rfl⟩
theorem d_X3_turnWind_53 : q_dec prog_5_method_16_code 53 (.invokevirtual 113) 3 56 := ⟨by decide +kernel, rfl⟩
theorem d_X3_turnWind_56 : q_dec prog_5_method_16_code 56 (.iinc 1 1) 3 59 := ⟨by decide +kernel, rfl⟩
theorem d_X3_turnWind_59 : q_dec prog_5_method_16_code 59 (.goto (-41)) 3 62 := ⟨by decide +kernel, rfl⟩
theorem d_X3_turnWind_62 : q_dec prog_5_method_16_code 62 (.return_) 1 63 := ⟨by decide +kernel, rfl⟩
theorem m_X3_turnWind : q_wV y_X3_turnWind prog_5_method_16_code 2 none 0 := ⟨q_mem 438 (by decide +kernel) (by decide +kernel), q_mem 437 (by decide +kernel) (by decide +kernel), q_memS (n := 6) 3 (by decide +kernel), q_mem 3 (by decide +kernel) (by decide +kernel), by decide +kernel⟩
theorem d_X3_passBeat_0 : q_dec prog_5_method_17_code 0 (.aload_n 0) 1 1 := ⟨by decide +kernel, rfl⟩
theorem d_X3_passBeat_1 : q_dec prog_5_method_17_code 1 (.dup) 1 2 := ⟨by decide +kernel, rfl⟩
theorem d_X3_passBeat_2 : q_dec prog_5_method_17_code 2 (.getfield 36) 3 5 := ⟨by decide +kernel, rfl⟩
theorem d_X3_passBeat_5 : q_dec prog_5_method_17_code 5 (.iconst 1) 1 6 := ⟨by decide +kernel, rfl⟩
theorem d_X3_passBeat_6 : q_dec prog_5_method_17_code 6 (.iadd) 1 7 := ⟨by decide +kernel, rfl⟩
theorem d_X3_passBeat_7 : q_dec prog_5_method_17_code 7 (.putfield 36) 3 10 := ⟨by decide +kernel, rfl⟩
theorem d_X3_passBeat_10 : q_dec prog_5_method_17_code 10 (.iconst 0) 1 11 := ⟨by decide +kernel, rfl⟩
theorem d_X3_passBeat_11 : q_dec prog_5_method_17_code 11 (.istore_n 1) 1 12 := ⟨by decide +kernel, rfl⟩
theorem d_X3_passBeat_12 : q_dec prog_5_method_17_code 12 (.iload_n 1) 1 13 := ⟨by decide +kernel, rfl⟩
theorem d_X3_passBeat_13 : q_dec prog_5_method_17_code 13 (.bipush 6) 2 15 := ⟨by decide +kernel, rfl⟩
theorem d_X3_passBeat_15 : q_dec prog_5_method_17_code 15 (.if_icmp .ge 42) 3 18 := ⟨by decide +kernel, rfl⟩
theorem d_X3_passBeat_18 : q_dec prog_5_method_17_code 18 (.aload_n 0) 1 19 := ⟨by decide +kernel, rfl⟩
theorem d_X3_passBeat_19 : q_dec prog_5_method_17_code 19 (.getfield 17) 3 22 := ⟨by decide +kernel, rfl⟩
theorem d_X3_passBeat_22 : q_dec prog_5_method_17_code 22 (.iload_n 1) 1 23 := ⟨by decide +kernel, rfl⟩
theorem d_X3_passBeat_23 : q_dec prog_5_method_17_code 23 (.aaload) 1 24 := ⟨by decide +kernel, rfl⟩
theorem d_X3_passBeat_24 : q_dec prog_5_method_17_code 24 (.getfield 50) 3 27 := ⟨by decide +kernel, rfl⟩
theorem d_X3_passBeat_27 : q_dec prog_5_method_17_code 27 (.ifCond .eq 24) 3 30 := ⟨by decide +kernel, rfl⟩
theorem d_X3_passBeat_30 : q_dec prog_5_method_17_code 30 (.aload_n 0) 1 31 := ⟨by decide +kernel, rfl⟩
theorem d_X3_passBeat_31 : q_dec prog_5_method_17_code 31 (.getfield 17) 3 34 := ⟨by decide +kernel, rfl⟩
theorem d_X3_passBeat_34 : q_dec prog_5_method_17_code 34 (.iload_n 1) 1 35 := ⟨by decide +kernel, rfl⟩
theorem d_X3_passBeat_35 : q_dec prog_5_method_17_code 35 (.aaload) 1 36 := ⟨by decide +kernel, rfl⟩
theorem d_X3_passBeat_36 : q_dec prog_5_method_17_code 36 (.getfield 61) 3 39 := ⟨by decide +kernel, rfl⟩
theorem d_X3_passBeat_39 : q_dec prog_5_method_17_code 39 (.ifCond .eq 12) 3 42 := ⟨by decide +kernel, rfl⟩
theorem d_X3_passBeat_42 : q_dec prog_5_method_17_code 42 (.aload_n 0) 1 43 := ⟨by decide +kernel, rfl⟩
theorem d_X3_passBeat_43 : q_dec prog_5_method_17_code 43 (.getfield 17) 3 46 := ⟨by decide +kernel, rfl⟩
theorem d_X3_passBeat_46 : q_dec prog_5_method_17_code 46 (.iload_n 1) 1 47 := ⟨by decide +kernel, rfl⟩
theorem d_X3_passBeat_47 : q_dec prog_5_method_17_code 47 (.aaload) 1 48 := ⟨by decide +kernel, rfl⟩
theorem d_X3_passBeat_48 : q_dec prog_5_method_17_code 48 (.invokevirtual 123) 3 51 := ⟨by decide +kernel, rfl⟩
theorem d_X3_passBeat_51 : q_dec prog_5_method_17_code 51 (.iinc 1 1) 3 54 := ⟨by decide +kernel, rfl⟩
theorem d_X3_passBeat_54 : q_dec prog_5_method_17_code 54 (.goto (-42)) 3 57 := ⟨by decide +kernel, rfl⟩
theorem d_X3_passBeat_57 : q_dec prog_5_method_17_code 57 (.return_) 1 58 := ⟨by decide +kernel, rfl⟩
theorem m_X3_passBeat : q_wV y_X3_passBeat prog_5_method_17_code 2 none 0 := ⟨q_mem 443 (by decide +kernel) (by decide +kernel), q_mem 442 (by decide +kernel) (by decide +kernel), q_memS (n := 6) 4 (by decide +kernel), q_mem 3 (by decide +kernel) (by decide +kernel), by decide +kernel⟩
theorem d_X3_actAlone_0 : q_dec prog_5_method_15_code 0 (.iload_n 2) 1 1 := ⟨by decide +kernel, rfl⟩
theorem d_X3_actAlone_1 : q_dec prog_5_method_15_code 1 (.bipush 42) 2 3 := ⟨by decide +kernel, rfl⟩
theorem d_X3_actAlone_3 : q_dec prog_5_method_15_code 3 (.if_icmp .ne 23) 3 6 := ⟨by decide +kernel, rfl⟩
theorem d_X3_actAlone_6 : q_dec prog_5_method_15_code 6 (.aload_n 1) 1 7 := ⟨by decide +kernel, rfl⟩
theorem d_X3_actAlone_7 : q_dec prog_5_method_15_code 7 (.getfield 61) 3 10 := ⟨by decide +kernel, rfl⟩
theorem d_X3_actAlone_10 : q_dec prog_5_method_15_code 10 (.ifCond .eq 16) 3 13 := ⟨by decide +kernel, rfl⟩
theorem d_X3_actAlone_13 : q_dec prog_5_method_15_code 13 (.aload_n 1) 1 14 := ⟨by decide +kernel, rfl⟩
theorem d_X3_actAlone_14 : q_dec prog_5_method_15_code 14 (.aload_n 1) 1 15 := ⟨by decide +kernel, rfl⟩
theorem d_X3_actAlone_15 : q_dec prog_5_method_15_code 15 (.getfield 53) 3 18 := ⟨by decide +kernel, rfl⟩
theorem d_X3_actAlone_18 : q_dec prog_5_method_15_code 18 (.iconst 0) 1 19 := ⟨by decide +kernel, rfl⟩
theorem d_X3_actAlone_19 : q_dec prog_5_method_15_code 19 (.iaload) 1 20 := ⟨by decide +kernel, rfl⟩
theorem d_X3_actAlone_20 : q_dec prog_5_method_15_code 20 (.invokevirtual 113) 3 23 := ⟨by decide +kernel, rfl⟩
theorem d_X3_actAlone_23 : q_dec prog_5_method_15_code 23 (.goto 73) 3 26 := ⟨by decide +kernel, rfl⟩
theorem d_X3_actAlone_26 : q_dec prog_5_method_15_code 26 (.iload_n 2) 1 27 := ⟨by decide +kernel, rfl⟩
theorem d_X3_actAlone_27 : q_dec prog_5_method_15_code 27 (.bipush 42) 2 29 := ⟨by decide +kernel, rfl⟩
theorem d_X3_actAlone_29 : q_dec prog_5_method_15_code 29 (.if_icmp .ne 15) 3 32 := ⟨by decide +kernel, rfl⟩
theorem d_X3_actAlone_32 : q_dec prog_5_method_15_code 32 (.aload_n 1) 1 33 := ⟨by decide +kernel, rfl⟩
theorem d_X3_actAlone_33 : q_dec prog_5_method_15_code 33 (.aload_n 0) 1 34 := ⟨by decide +kernel, rfl⟩
theorem d_X3_actAlone_34 : q_dec prog_5_method_15_code 34 (.aload_n 1) 1 35 := ⟨by decide +kernel, rfl⟩
theorem d_X3_actAlone_35 : q_dec prog_5_method_15_code 35 (.invokevirtual 57) 3 38 := ⟨by decide +kernel, rfl⟩
theorem d_X3_actAlone_38 : q_dec prog_5_method_15_code 38 (.invokevirtual 117) 3 41 := ⟨by decide +kernel, rfl⟩
theorem d_X3_actAlone_41 : q_dec prog_5_method_15_code 41 (.goto 55) 3 44 := ⟨by decide +kernel, rfl⟩
theorem d_X3_actAlone_44 : q_dec prog_5_method_15_code 44 (.iload_n 2) 1 45 := ⟨by decide +kernel, rfl⟩
theorem d_X3_actAlone_45 : q_dec prog_5_method_15_code 45 (.bipush 60) 2 47 := ⟨by decide +kernel, rfl⟩
theorem d_X3_actAlone_47 : q_dec prog_5_method_15_code 47 (.if_icmp .ne 18) 3 50 := ⟨by decide +kernel, rfl⟩
theorem d_X3_actAlone_50 : q_dec prog_5_method_15_code 50 (.aload_n 1) 1 51 := ⟨by decide +kernel, rfl⟩
theorem d_X3_actAlone_51 : q_dec prog_5_method_15_code 51 (.aload_n 1) 1 52 := ⟨by decide +kernel, rfl⟩
theorem d_X3_actAlone_52 : q_dec prog_5_method_15_code 52 (.getfield 53) 3 55 := ⟨by decide +kernel, rfl⟩
theorem d_X3_actAlone_55 : q_dec prog_5_method_15_code 55 (.iconst 0) 1 56 := ⟨by decide +kernel, rfl⟩
theorem d_X3_actAlone_56 : q_dec prog_5_method_15_code 56 (.iaload) 1 57 := ⟨by decide +kernel, rfl⟩
theorem d_X3_actAlone_57 : q_dec prog_5_method_15_code 57 (.iconst 1) 1 58 := ⟨by decide +kernel, rfl⟩
theorem d_X3_actAlone_58 : q_dec prog_5_method_15_code 58 (.isub) 1 59 := ⟨by decide +kernel, rfl⟩
theorem d_X3_actAlone_59 : q_dec prog_5_method_15_code 59 (.invokevirtual 120) 3 62 := ⟨by decide +kernel, rfl⟩
theorem d_X3_actAlone_62 : q_dec prog_5_method_15_code 62 (.goto 34) 3 65 := ⟨by decide +kernel, rfl⟩
theorem d_X3_actAlone_65 : q_dec prog_5_method_15_code 65 (.iload_n 2) 1 66 := ⟨by decide +kernel, rfl⟩
theorem d_X3_actAlone_66 : q_dec prog_5_method_15_code 66 (.bipush 62) 2 68 := ⟨by decide +kernel, rfl⟩
theorem d_X3_actAlone_68 : q_dec prog_5_method_15_code 68 (.if_icmp .ne 18) 3 71 := ⟨by decide +kernel, rfl⟩
theorem d_X3_actAlone_71 : q_dec prog_5_method_15_code 71 (.aload_n 1) 1 72 := ⟨by decide +kernel, rfl⟩
theorem d_X3_actAlone_72 : q_dec prog_5_method_15_code 72 (.aload_n 1) 1 73 := ⟨by decide +kernel, rfl⟩
theorem d_X3_actAlone_73 : q_dec prog_5_method_15_code 73 (.getfield 53) 3 76 := ⟨by decide +kernel, rfl⟩
theorem d_X3_actAlone_76 : q_dec prog_5_method_15_code 76 (.iconst 0) 1 77 := ⟨by decide +kernel, rfl⟩
theorem d_X3_actAlone_77 : q_dec prog_5_method_15_code 77 (.iaload) 1 78 := ⟨by decide +kernel, rfl⟩
theorem d_X3_actAlone_78 : q_dec prog_5_method_15_code 78 (.iconst 1) 1 79 := ⟨by decide +kernel, rfl⟩
theorem d_X3_actAlone_79 : q_dec prog_5_method_15_code 79 (.iadd) 1 80 := ⟨by decide +kernel, rfl⟩
theorem d_X3_actAlone_80 : q_dec prog_5_method_15_code 80 (.invokevirtual 120) 3 83 := ⟨by decide +kernel, rfl⟩
theorem d_X3_actAlone_83 : q_dec prog_5_method_15_code 83 (.goto 13) 3 86 := ⟨by decide +kernel, rfl⟩
theorem d_X3_actAlone_86 : q_dec prog_5_method_15_code 86 (.aload_n 1) 1 87 := ⟨by decide +kernel, rfl⟩
theorem d_X3_actAlone_87 : q_dec prog_5_method_15_code 87 (.aload_n 1) 1 88 := ⟨by decide +kernel, rfl⟩
theorem d_X3_actAlone_88 : q_dec prog_5_method_15_code 88 (.getfield 53) 3 91 := ⟨by decide +kernel, rfl⟩
theorem d_X3_actAlone_91 : q_dec prog_5_method_15_code 91 (.iconst 0) 1 92 := ⟨by decide +kernel, rfl⟩
theorem d_X3_actAlone_92 : q_dec prog_5_method_15_code 92 (.iaload) 1 93 := ⟨by decide +kernel, rfl⟩
theorem d_X3_actAlone_93 : q_dec prog_5_method_15_code 93 (.invokevirtual 120) 3 96 := ⟨by decide +kernel, rfl⟩
theorem d_X3_actAlone_96 : q_dec prog_5_method_15_code 96 (.return_) 1 97 := ⟨by decide +kernel, rfl⟩
theorem m_X3_actAlone : q_wV y_X3_actAlone prog_5_method_15_code 3 none 2 := ⟨q_mem 454 (by decide +kernel) (by decide +kernel), q_mem 453 (by decide +kernel) (by decide +kernel), q_memS (n := 6) 5 (by decide +kernel), q_mem 3 (by decide +kernel) (by decide +kernel), by decide +kernel⟩
theorem d_X3_act_0 : q_dec prog_5_method_14_code 0 (.iload_n 2) 1 1 := ⟨by decide +kernel, rfl⟩
theorem d_X3_act_1 : q_dec prog_5_method_14_code 1 (.bipush 126) 2 3 := ⟨by decide +kernel, rfl⟩
theorem d_X3_act_3 : q_dec prog_5_method_14_code 3 (.if_icmp .ne 10) 3 6 := ⟨by decide +kernel, rfl⟩
theorem d_X3_act_6 : q_dec prog_5_method_14_code 6 (.aload_n 0) 1 7 := ⟨by decide +kernel, rfl⟩
theorem d_X3_act_7 : q_dec prog_5_method_14_code 7 (.invokevirtual 103) 3 10 := ⟨by decide +kernel, rfl⟩
theorem d_X3_act_10 : q_dec prog_5_method_14_code 10 (.goto 35) 3 13 := ⟨by decide +kernel, rfl⟩
theorem d_X3_act_13 : q_dec prog_5_method_14_code 13 (.iload_n 2) 1 14 := ⟨by decide +kernel, rfl⟩
theorem d_X3_act_14 : q_dec prog_5_method_14_code 14 (.bipush 46) 2 16 := ⟨by decide +kernel, rfl⟩
theorem d_X3_act_16 : q_dec prog_5_method_14_code 16 (.if_icmp .ne 10) 3 19 := ⟨by decide +kernel, rfl⟩
theorem d_X3_act_19 : q_dec prog_5_method_14_code 19 (.aload_n 0) 1 20 := ⟨by decide +kernel, rfl⟩
theorem d_X3_act_20 : q_dec prog_5_method_14_code 20 (.invokevirtual 106) 3 23 := ⟨by decide +kernel, rfl⟩
theorem d_X3_act_23 : q_dec prog_5_method_14_code 23 (.goto 22) 3 26 := ⟨by decide +kernel, rfl⟩
theorem d_X3_act_26 : q_dec prog_5_method_14_code 26 (.aload_n 0) 1 27 := ⟨by decide +kernel, rfl⟩
theorem d_X3_act_27 : q_dec prog_5_method_14_code 27 (.iload_n 1) 1 28 := ⟨by decide +kernel, rfl⟩
theorem d_X3_act_28 : q_dec prog_5_method_14_code 28 (.invokevirtual 70) 3 31 := ⟨by decide +kernel, rfl⟩
theorem d_X3_act_31 : q_dec prog_5_method_14_code 31 (.ifCond .eq 14) 3 34 := ⟨by decide +kernel, rfl⟩
theorem d_X3_act_34 : q_dec prog_5_method_14_code 34 (.aload_n 0) 1 35 := ⟨by decide +kernel, rfl⟩
theorem d_X3_act_35 : q_dec prog_5_method_14_code 35 (.aload_n 0) 1 36 := ⟨by decide +kernel, rfl⟩
theorem d_X3_act_36 : q_dec prog_5_method_14_code 36 (.getfield 17) 3 39 := ⟨by decide +kernel, rfl⟩
theorem d_X3_act_39 : q_dec prog_5_method_14_code 39 (.iload_n 1) 1 40 := ⟨by decide +kernel, rfl⟩
theorem d_X3_act_40 : q_dec prog_5_method_14_code 40 (.aaload) 1 41 := ⟨by decide +kernel, rfl⟩
theorem d_X3_act_41 : q_dec prog_5_method_14_code 41 (.iload_n 2) 1 42 := ⟨by decide +kernel, rfl⟩
theorem d_X3_act_42 : q_dec prog_5_method_14_code 42 (.invokevirtual 109) 3 45 := ⟨by decide +kernel, rfl⟩
theorem d_X3_act_45 : q_dec prog_5_method_14_code 45 (.return_) 1 46 := ⟨by decide +kernel, rfl⟩
theorem m_X3_act : q_wV y_X3_act prog_5_method_14_code 3 none 2 := ⟨q_mem 434 (by decide +kernel) (by decide +kernel), q_mem 432 (by decide +kernel) (by decide +kernel), q_mem 433 (by decide +kernel) (by decide +kernel), q_mem 3 (by decide +kernel) (by decide +kernel), by decide +kernel⟩
theorem w_WaterOthers_Reach_17 : Cond.fieldLink "WaterOthers$Reach" 17 "WaterOthers$Reach" "walkers" "[LWaterOthers$Walker;" ∈ q_tbl := q_mem 116 (by decide +kernel) (by decide +kernel)
theorem w_WaterOthers_Reach_24 : Cond.fieldLink "WaterOthers$Reach" 24 "WaterOthers$Reach" "sights" "LWaterOthers$Sights;" ∈ q_tbl := q_mem 119 (by decide +kernel) (by decide +kernel)
theorem w_WaterOthers_Reach_29 : Cond.fieldLink "WaterOthers$Reach" 29 "WaterOthers$Reach" "arches" "I" ∈ q_tbl := q_mem 108 (by decide +kernel) (by decide +kernel)
theorem w_WaterOthers_Reach_32 : Cond.fieldLink "WaterOthers$Reach" 32 "WaterOthers$Reach" "wind" "Z" ∈ q_tbl := q_mem 112 (by decide +kernel) (by decide +kernel)
theorem w_WaterOthers_Reach_36 : Cond.fieldLink "WaterOthers$Reach" 36 "WaterOthers$Reach" "beat" "I" ∈ q_tbl := q_mem 114 (by decide +kernel) (by decide +kernel)
theorem w_WaterOthers_Reach_39 : Cond.methodLink "WaterOthers$Reach" 39 y_X8_copy ∈ q_tbl := q_mem 376 (by decide +kernel) (by decide +kernel)
theorem w_WaterOthers_Reach_43 : Cond.methodLink "WaterOthers$Reach" 43 y_X5_copy ∈ q_tbl := q_mem 383 (by decide +kernel) (by decide +kernel)
theorem w_WaterOthers_Reach_9 : Cond.fieldLink "WaterOthers$Reach" 9 "WaterOthers$Reach" "gap" "I" ∈ q_tbl := q_mem 110 (by decide +kernel) (by decide +kernel)
def f_X3_copy_34 (N : Nat)  (p0 : Nat) (p1 : Nat)  : Nat → Int32 → q_S → Option q_S
  | 0, _, _ => none
  | n + 1, x2, σ =>
    if (6 : Int32) ≤ x2 then (some (f_X5_copy (p0 + 14) (p1 + 14) σ))
    else (if ¬ ((x2 : Int32) < 0 ∨ 6 ≤ (x2 : Int32).toNatClampNeg) then (f_X8_copy (p0 + 2 + (x2 : Int32).toNatClampNeg) (p1 + 2 + (x2 : Int32).toNatClampNeg) σ).bind fun z52 =>
      f_X3_copy_34 N p0 p1 n (x2 + 1) z52 else none)
def f_X3_copy (N : Nat) (o : Nat) (a0 : Nat) (σ : q_S) : Option q_S :=
  if ((q_w (q_w σ o 0 (σ.1 a0 0)) o 1 ((q_w σ o 0 (σ.1 a0 0)).1 a0 1)).1 a0 2) = 0 ∨ ((q_w (q_w σ o 0 (σ.1 a0 0)) o 1 ((q_w σ o 0 (σ.1 a0 0)).1 a0 1)).1 a0 2) = 1 then f_X3_copy_34 N o a0 N 0 (q_w (q_w (q_w (q_w σ o 0 (σ.1 a0 0)) o 1 ((q_w σ o 0 (σ.1 a0 0)).1 a0 1)) o 2 ((q_w (q_w σ o 0 (σ.1 a0 0)) o 1 ((q_w σ o 0 (σ.1 a0 0)).1 a0 1)).1 a0 2)) o 3 ((q_w (q_w (q_w σ o 0 (σ.1 a0 0)) o 1 ((q_w σ o 0 (σ.1 a0 0)).1 a0 1)) o 2 ((q_w (q_w σ o 0 (σ.1 a0 0)) o 1 ((q_w σ o 0 (σ.1 a0 0)).1 a0 1)).1 a0 2)).1 a0 3)) else none
set_option maxRecDepth 20000 in
theorem t_X3_copy_34 {Z : q_Z} {Γ : q_C} {σ' : q_S} (B : q_B Z Γ prog_5_method_2_code "WaterOthers$Reach" 3 2) (En : q_E Z Γ none none σ') (N : Nat)  (p0 : Nat) (p1 : Nat)  (hp0 : q_R p0) (hp1 : q_R p1) : ∀ (n : Nat) (x2 : Int32) (σ : q_S), f_X3_copy_34 N p0 p1 n x2 σ = some σ' → q_G Z Γ 3 σ 34 [(0, .ref (Z.1 p0)), (1, .ref (Z.1 p1)), (2, .int x2)] [] := by
  intro n
  induction n with
  | zero =>
    intro x2 σ h
    cases h
  | succ n ih =>
    intro x2 σ h
    unfold f_X3_copy_34 at h
    refine g_iload_n B d_X3_copy_34 rfl rfl ?_
    refine g_bipush (v := 6) B d_X3_copy_35 (by decide) ?_
    refine g_icmp_ge (tgt := 61) B d_X3_copy_37 (by decide) h (fun h => ?_) (fun h => ?_)
    · refine g_aload_n B d_X3_copy_61 rfl rfl ?_
      refine g_get (ci := 3) (k := 5) (v := .ref (Z.1 (p0 + 14))) B d_X3_copy_62 q_in3 rfl (q_Rlt hp0) ((q_cR hp0) _ _) (by decide) w_WaterOthers_Reach_24 rfl rfl ?_
      refine g_aload_n B d_X3_copy_65 rfl rfl ?_
      refine g_get (ci := 3) (k := 5) (v := .ref (Z.1 (p1 + 14))) B d_X3_copy_66 q_in3 rfl (q_Rlt hp1) ((q_cR hp1) _ _) (by decide) w_WaterOthers_Reach_24 rfl rfl ?_
      refine g_callV (p0 := (p0 + 14)) (ci := 5) (As := [.ref (Z.1 (p1 + 14))]) (rest := []) B d_X3_copy_69 (t_X5_copy (p0 + 14) (p1 + 14) (q_RS hp0) (q_RS hp1) σ rfl) m_X5_copy w_WaterOthers_Reach_43 (q_Slt (q_RS hp0)) ((q_cS (q_RS hp0)) _ _) rfl rfl rfl (Nat.le_of_ble_eq_true rfl) (by omega) (by decide) ?_
      obtain rfl := q_po h
      exact g_vret B En d_X3_copy_72
    · refine g_aload_n B d_X3_copy_40 rfl rfl ?_
      refine g_get (ci := 3) (k := 4) (v := .ref (Z.1 (p0 + 1))) B d_X3_copy_41 q_in3 rfl (q_Rlt hp0) ((q_cR hp0) _ _) (by decide) w_WaterOthers_Reach_17 rfl rfl ?_
      refine g_iload_n B d_X3_copy_44 rfl rfl ?_
      obtain ⟨h45, h⟩ := q_chk h
      refine g_aald (t := 4) (f := (fun j => p0 + 2 + j)) B d_X3_copy_45 (q_RAlt hp0) (q_cRA hp0) rfl h45 ?_
      refine g_aload_n B d_X3_copy_46 rfl rfl ?_
      refine g_get (ci := 3) (k := 4) (v := .ref (Z.1 (p1 + 1))) B d_X3_copy_47 q_in3 rfl (q_Rlt hp1) ((q_cR hp1) _ _) (by decide) w_WaterOthers_Reach_17 rfl rfl ?_
      refine g_iload_n B d_X3_copy_50 rfl rfl ?_
      refine g_aald (t := 4) (f := (fun j => p1 + 2 + j)) B d_X3_copy_51 (q_RAlt hp1) (q_cRA hp1) rfl h45 ?_
      obtain ⟨z52, g52, h⟩ := q_bind h
      refine g_callV (p0 := (p0 + 2 + (x2 : Int32).toNatClampNeg)) (ci := 8) (As := [.ref (Z.1 (p1 + 2 + (x2 : Int32).toNatClampNeg))]) (rest := []) B d_X3_copy_52 (t_X8_copy (p0 + 2 + (x2 : Int32).toNatClampNeg) (p1 + 2 + (x2 : Int32).toNatClampNeg) (q_RW hp0 h45) (q_RW hp1 h45) σ g52) m_X8_copy w_WaterOthers_Reach_39 (q_Wlt (q_RW hp0 h45)) ((q_cW (q_RW hp0 h45)) _ _) rfl rfl rfl (Nat.le_of_ble_eq_true rfl) (by omega) (by decide) ?_
      refine g_iinc (v := (x2 + 1)) B d_X3_copy_55 rfl rfl (by decide) ?_
      refine g_goto (tgt := 34) B d_X3_copy_58 (by decide) ?_
      exact g_cut rfl (ih (x2 + 1) z52 h)
set_option maxRecDepth 20000 in
theorem t_X3_copy {Z : q_Z} {l : Launch} (N : Nat) (o : Nat) (a0 : Nat) (ho : q_R o) (h0 : q_R a0) (σ : q_S) {σ' : q_S} (h : f_X3_copy N o a0 σ = some σ') : q_M Z l y_X3_copy prog_5_method_2_code 3 none 2 [.ref (Z.1 o), .ref (Z.1 a0)] σ none σ' := by
  refine q_met (by decide +kernel) (Nat.le_of_ble_eq_true rfl) (fun Γ hΓ B En => ?_)
  unfold f_X3_copy at h
  refine g_cut (lv' := [(0, .ref (Z.1 o)), (1, .ref (Z.1 a0))]) rfl ?_
  refine g_aload_n B d_X3_copy_0 rfl rfl ?_
  refine g_aload_n B d_X3_copy_1 rfl rfl ?_
  refine g_get (ci := 3) (k := 0) B d_X3_copy_2 q_in3 rfl (q_Rlt h0) ((q_cR h0) _ _) (by decide) w_WaterOthers_Reach_29 rfl rfl ?_
  refine g_put (ci := 3) (k := 0) (v := (σ.1 a0 0)) (ty := .int) B d_X3_copy_5 q_in3 rfl q_yk3 q_nm3 (q_Rlt ho) (q_cR ho) (by decide) w_WaterOthers_Reach_29 rfl rfl rfl rfl rfl (Nat.le_of_ble_eq_true rfl) (fun _ _ => rfl) ?_
  refine g_aload_n B d_X3_copy_8 rfl rfl ?_
  refine g_aload_n B d_X3_copy_9 rfl rfl ?_
  refine g_get (ci := 3) (k := 1) B d_X3_copy_10 q_in3 rfl (q_Rlt h0) ((q_cR h0) _ _) (by decide) w_WaterOthers_Reach_9 rfl rfl ?_
  refine g_put (ci := 3) (k := 1) (v := ((q_w σ o 0 (σ.1 a0 0)).1 a0 1)) (ty := .int) B d_X3_copy_13 q_in3 rfl q_yk3 q_nm3 (q_Rlt ho) (q_cR ho) (by decide) w_WaterOthers_Reach_9 rfl rfl rfl rfl rfl (Nat.le_of_ble_eq_true rfl) (fun _ _ => rfl) ?_
  refine g_aload_n B d_X3_copy_16 rfl rfl ?_
  refine g_aload_n B d_X3_copy_17 rfl rfl ?_
  refine g_get (ci := 3) (k := 2) B d_X3_copy_18 q_in3 rfl (q_Rlt h0) ((q_cR h0) _ _) (by decide) w_WaterOthers_Reach_32 rfl rfl ?_
  obtain ⟨h21, h⟩ := q_chk h
  refine g_put (ci := 3) (k := 2) (v := ((q_w (q_w σ o 0 (σ.1 a0 0)) o 1 ((q_w σ o 0 (σ.1 a0 0)).1 a0 1)).1 a0 2)) (ty := .boolean) B d_X3_copy_21 q_in3 rfl q_yk3 q_nm3 (q_Rlt ho) (q_cR ho) (by decide) w_WaterOthers_Reach_32 rfl rfl rfl (q_bn h21).1 (q_bn h21).2 (Nat.le_of_ble_eq_true rfl) (fun _ _ => rfl) ?_
  refine g_aload_n B d_X3_copy_24 rfl rfl ?_
  refine g_aload_n B d_X3_copy_25 rfl rfl ?_
  refine g_get (ci := 3) (k := 3) B d_X3_copy_26 q_in3 rfl (q_Rlt h0) ((q_cR h0) _ _) (by decide) w_WaterOthers_Reach_36 rfl rfl ?_
  refine g_put (ci := 3) (k := 3) (v := ((q_w (q_w (q_w σ o 0 (σ.1 a0 0)) o 1 ((q_w σ o 0 (σ.1 a0 0)).1 a0 1)) o 2 ((q_w (q_w σ o 0 (σ.1 a0 0)) o 1 ((q_w σ o 0 (σ.1 a0 0)).1 a0 1)).1 a0 2)).1 a0 3)) (ty := .int) B d_X3_copy_29 q_in3 rfl q_yk3 q_nm3 (q_Rlt ho) (q_cR ho) (by decide) w_WaterOthers_Reach_36 rfl rfl rfl rfl rfl (Nat.le_of_ble_eq_true rfl) (fun _ _ => rfl) ?_
  refine g_iconst (v := 0) B d_X3_copy_32 (by decide) ?_
  refine g_istore_n B d_X3_copy_33 rfl (by decide) ?_
  exact g_cut rfl (t_X3_copy_34 B En N o a0 ho h0 N 0 (q_w (q_w (q_w (q_w σ o 0 (σ.1 a0 0)) o 1 ((q_w σ o 0 (σ.1 a0 0)).1 a0 1)) o 2 ((q_w (q_w σ o 0 (σ.1 a0 0)) o 1 ((q_w σ o 0 (σ.1 a0 0)).1 a0 1)).1 a0 2)) o 3 ((q_w (q_w (q_w σ o 0 (σ.1 a0 0)) o 1 ((q_w σ o 0 (σ.1 a0 0)).1 a0 1)) o 2 ((q_w (q_w σ o 0 (σ.1 a0 0)) o 1 ((q_w σ o 0 (σ.1 a0 0)).1 a0 1)).1 a0 2)).1 a0 3)) h)

theorem w_WaterOthers_Reach_46 : Cond.methodLinkNest "WaterOthers$Reach" 46 y_X9_isWithin "WaterOthers" ∈ q_nst := q_memN 329 (by decide +kernel) (by decide +kernel)
theorem w_WaterOthers_Reach_50 : Cond.fieldLinkNest "WaterOthers$Reach" 50 "WaterOthers$Walker" "there" "Z" "WaterOthers" ∈ q_nst := q_memN 76 (by decide +kernel) (by decide +kernel)
def f_X3_has (o : Nat) (a0 : Int32) (σ : q_S) : Option Int32 :=
  if (f_X9_isWithin a0 0 5) = 0 then (some 0)
  else (if ¬ ((a0 : Int32) < 0 ∨ 6 ≤ (a0 : Int32).toNatClampNeg) then if (σ.1 (o + 2 + (a0 : Int32).toNatClampNeg) 0) = 0 then (some 0)
    else (some 1) else none)
set_option maxRecDepth 20000 in
theorem t_X3_has {Z : q_Z} {l : Launch} (o : Nat) (a0 : Int32) (ho : q_R o) (σ : q_S) {r : Int32} (h : f_X3_has o a0 σ = some r) : q_M Z l y_X3_has prog_5_method_3_code 2 (some .boolean) 2 [.ref (Z.1 o), .int a0] σ (some (.int r)) σ := by
  refine q_met (by decide +kernel) (Nat.le_of_ble_eq_true rfl) (fun Γ hΓ B En => ?_)
  unfold f_X3_has at h
  refine g_cut (lv' := [(0, .ref (Z.1 o)), (1, .int a0)]) rfl ?_
  refine g_iload_n B d_X3_has_0 rfl rfl ?_
  refine g_iconst (v := 0) B d_X3_has_1 (by decide) ?_
  refine g_iconst (v := 5) B d_X3_has_2 (by decide) ?_
  refine g_callSN (As := [.int a0, .int 0, .int 5]) (rest := []) B d_X3_has_3 (t_X9_isWithin a0 0 5 σ rfl) m_X9_isWithin w_WaterOthers_Reach_46 rfl rfl (Nat.le_of_ble_eq_true rfl) (by omega) (by decide) ?_
  refine g_if_eq (tgt := 25) B d_X3_has_6 (by decide) h (fun h => ?_) (fun h => ?_)
  · refine g_iconst (v := 0) B d_X3_has_25 (by decide) ?_
    obtain rfl := q_po h
    exact g_zret B En d_X3_has_26 (by decide)
  · refine g_aload_n B d_X3_has_9 rfl rfl ?_
    refine g_get (ci := 3) (k := 4) (v := .ref (Z.1 (o + 1))) B d_X3_has_10 q_in3 rfl (q_Rlt ho) ((q_cR ho) _ _) (by decide) w_WaterOthers_Reach_17 rfl rfl ?_
    refine g_iload_n B d_X3_has_13 rfl rfl ?_
    obtain ⟨h14, h⟩ := q_chk h
    refine g_aald (t := 4) (f := (fun j => o + 2 + j)) B d_X3_has_14 (q_RAlt ho) (q_cRA ho) rfl h14 ?_
    refine g_getN (ci := 8) (k := 0) B d_X3_has_15 q_in8 rfl (q_Wlt (q_RW ho h14)) ((q_cW (q_RW ho h14)) _ _) (by decide) w_WaterOthers_Reach_50 rfl rfl ?_
    refine g_if_eq (tgt := 25) B d_X3_has_18 (by decide) h (fun h => ?_) (fun h => ?_)
    · refine g_iconst (v := 0) B d_X3_has_25 (by decide) ?_
      obtain rfl := q_po h
      exact g_zret B En d_X3_has_26 (by decide)
    · refine g_iconst (v := 1) B d_X3_has_21 (by decide) ?_
      refine g_goto (tgt := 26) B d_X3_has_22 (by decide) ?_
      obtain rfl := q_po h
      exact g_zret B En d_X3_has_26 (by decide)

def f_X3_thereBits_4 (N : Nat)  (p0 : Nat) (σ : q_S) : Nat → Int32 → Int32 → Option Int32
  | 0, _, _ => none
  | n + 1, x1, x2 =>
    if (6 : Int32) ≤ x2 then (some x1)
    else (if ¬ ((x2 : Int32) < 0 ∨ 6 ≤ (x2 : Int32).toNatClampNeg) then if (σ.1 (p0 + 2 + (x2 : Int32).toNatClampNeg) 0) = 0 then (f_X3_thereBits_4 N p0 σ n (x1 ||| 0) (x2 + 1))
      else (f_X3_thereBits_4 N p0 σ n (x1 ||| (1 <<< (x2 &&& 31))) (x2 + 1)) else none)
def f_X3_thereBits (N : Nat) (o : Nat) (σ : q_S) : Option Int32 :=
  f_X3_thereBits_4 N o σ N 0 0
set_option maxRecDepth 20000 in
theorem t_X3_thereBits_4 {Z : q_Z} {Γ : q_C} {σ : q_S} {r : Int32} (B : q_B Z Γ prog_5_method_4_code "WaterOthers$Reach" 3 1) (En : q_E Z Γ (some .int) (some (.int r)) σ) (N : Nat)  (p0 : Nat)  (hp0 : q_R p0) : ∀ (n : Nat) (x1 : Int32) (x2 : Int32), f_X3_thereBits_4 N p0 σ n x1 x2 = some r → q_G Z Γ 3 σ 4 [(0, .ref (Z.1 p0)), (1, .int x1), (2, .int x2)] [] := by
  intro n
  induction n with
  | zero =>
    intro x1 x2 h
    cases h
  | succ n ih =>
    intro x1 x2 h
    unfold f_X3_thereBits_4 at h
    refine g_iload_n B d_X3_thereBits_4 rfl rfl ?_
    refine g_bipush (v := 6) B d_X3_thereBits_5 (by decide) ?_
    refine g_icmp_ge (tgt := 38) B d_X3_thereBits_7 (by decide) h (fun h => ?_) (fun h => ?_)
    · refine g_iload_n B d_X3_thereBits_38 rfl rfl ?_
      obtain rfl := q_po h
      exact g_iret B En d_X3_thereBits_39
    · refine g_iload_n B d_X3_thereBits_10 rfl rfl ?_
      refine g_aload_n B d_X3_thereBits_11 rfl rfl ?_
      refine g_get (ci := 3) (k := 4) (v := .ref (Z.1 (p0 + 1))) B d_X3_thereBits_12 q_in3 rfl (q_Rlt hp0) ((q_cR hp0) _ _) (by decide) w_WaterOthers_Reach_17 rfl rfl ?_
      refine g_iload_n B d_X3_thereBits_15 rfl rfl ?_
      obtain ⟨h16, h⟩ := q_chk h
      refine g_aald (t := 4) (f := (fun j => p0 + 2 + j)) B d_X3_thereBits_16 (q_RAlt hp0) (q_cRA hp0) rfl h16 ?_
      refine g_getN (ci := 8) (k := 0) B d_X3_thereBits_17 q_in8 rfl (q_Wlt (q_RW hp0 h16)) ((q_cW (q_RW hp0 h16)) _ _) (by decide) w_WaterOthers_Reach_50 rfl rfl ?_
      refine g_if_eq (tgt := 29) B d_X3_thereBits_20 (by decide) h (fun h => ?_) (fun h => ?_)
      · refine g_iconst (v := 0) B d_X3_thereBits_29 (by decide) ?_
        refine g_ior B d_X3_thereBits_30 ?_
        refine g_istore_n B d_X3_thereBits_31 rfl (by decide) ?_
        refine g_iinc (v := (x2 + 1)) B d_X3_thereBits_32 rfl rfl (by decide) ?_
        refine g_goto (tgt := 4) B d_X3_thereBits_35 (by decide) ?_
        exact g_cut rfl (ih (x1 ||| 0) (x2 + 1) h)
      · refine g_iconst (v := 1) B d_X3_thereBits_23 (by decide) ?_
        refine g_iload_n B d_X3_thereBits_24 rfl rfl ?_
        refine g_ishl B d_X3_thereBits_25 ?_
        refine g_goto (tgt := 30) B d_X3_thereBits_26 (by decide) ?_
        refine g_ior B d_X3_thereBits_30 ?_
        refine g_istore_n B d_X3_thereBits_31 rfl (by decide) ?_
        refine g_iinc (v := (x2 + 1)) B d_X3_thereBits_32 rfl rfl (by decide) ?_
        refine g_goto (tgt := 4) B d_X3_thereBits_35 (by decide) ?_
        exact g_cut rfl (ih (x1 ||| (1 <<< (x2 &&& 31))) (x2 + 1) h)
set_option maxRecDepth 20000 in
theorem t_X3_thereBits {Z : q_Z} {l : Launch} (N : Nat) (o : Nat) (ho : q_R o) (σ : q_S) {r : Int32} (h : f_X3_thereBits N o σ = some r) : q_M Z l y_X3_thereBits prog_5_method_4_code 3 (some .int) 1 [.ref (Z.1 o)] σ (some (.int r)) σ := by
  refine q_met (by decide +kernel) (Nat.le_of_ble_eq_true rfl) (fun Γ hΓ B En => ?_)
  unfold f_X3_thereBits at h
  refine g_cut (lv' := [(0, .ref (Z.1 o))]) rfl ?_
  refine g_iconst (v := 0) B d_X3_thereBits_0 (by decide) ?_
  refine g_istore_n B d_X3_thereBits_1 rfl (by decide) ?_
  refine g_iconst (v := 0) B d_X3_thereBits_2 (by decide) ?_
  refine g_istore_n B d_X3_thereBits_3 rfl (by decide) ?_
  exact g_cut rfl (t_X3_thereBits_4 B En N o ho N 0 0 h)

theorem w_WaterOthers_Reach_53 : Cond.fieldLinkNest "WaterOthers$Reach" 53 "WaterOthers$Walker" "was" "[I" "WaterOthers" ∈ q_nst := q_memN 93 (by decide +kernel) (by decide +kernel)
def f_X3_walkersIn_4 (N : Nat)  (p0 : Nat) (x1 : Int32) (σ : q_S) : Nat → Int32 → Int32 → Option Int32
  | 0, _, _ => none
  | n + 1, x2, x3 =>
    if (6 : Int32) ≤ x3 then (some x2)
    else (if ¬ ((x3 : Int32) < 0 ∨ 6 ≤ (x3 : Int32).toNatClampNeg) then if (σ.1 (p0 + 2 + (x3 : Int32).toNatClampNeg) 0) = 0 then (f_X3_walkersIn_4 N p0 x1 σ n (x2 ||| 0) (x3 + 1))
      else (if (σ.1 ((p0 + 2 + (x3 : Int32).toNatClampNeg) + 6) (0 : Int32).toNatClampNeg) = x1 then (f_X3_walkersIn_4 N p0 x1 σ n (x2 ||| (1 <<< (x3 &&& 31))) (x3 + 1))
        else (f_X3_walkersIn_4 N p0 x1 σ n (x2 ||| 0) (x3 + 1))) else none)
def f_X3_walkersIn (N : Nat) (o : Nat) (a0 : Int32) (σ : q_S) : Option Int32 :=
  f_X3_walkersIn_4 N o a0 σ N 0 0
set_option maxRecDepth 20000 in
theorem t_X3_walkersIn_4 {Z : q_Z} {Γ : q_C} {σ : q_S} {r : Int32} (B : q_B Z Γ prog_5_method_5_code "WaterOthers$Reach" 4 1) (En : q_E Z Γ (some .int) (some (.int r)) σ) (N : Nat)  (p0 : Nat) (x1 : Int32)  (hp0 : q_R p0) : ∀ (n : Nat) (x2 : Int32) (x3 : Int32), f_X3_walkersIn_4 N p0 x1 σ n x2 x3 = some r → q_G Z Γ 4 σ 4 [(0, .ref (Z.1 p0)), (1, .int x1), (2, .int x2), (3, .int x3)] [] := by
  intro n
  induction n with
  | zero =>
    intro x2 x3 h
    cases h
  | succ n ih =>
    intro x2 x3 h
    unfold f_X3_walkersIn_4 at h
    refine g_iload_n B d_X3_walkersIn_4 rfl rfl ?_
    refine g_bipush (v := 6) B d_X3_walkersIn_5 (by decide) ?_
    refine g_icmp_ge (tgt := 53) B d_X3_walkersIn_7 (by decide) h (fun h => ?_) (fun h => ?_)
    · refine g_iload_n B d_X3_walkersIn_53 rfl rfl ?_
      obtain rfl := q_po h
      exact g_iret B En d_X3_walkersIn_54
    · refine g_iload_n B d_X3_walkersIn_10 rfl rfl ?_
      refine g_aload_n B d_X3_walkersIn_11 rfl rfl ?_
      refine g_get (ci := 3) (k := 4) (v := .ref (Z.1 (p0 + 1))) B d_X3_walkersIn_12 q_in3 rfl (q_Rlt hp0) ((q_cR hp0) _ _) (by decide) w_WaterOthers_Reach_17 rfl rfl ?_
      refine g_iload_n B d_X3_walkersIn_15 rfl rfl ?_
      obtain ⟨h16, h⟩ := q_chk h
      refine g_aald (t := 4) (f := (fun j => p0 + 2 + j)) B d_X3_walkersIn_16 (q_RAlt hp0) (q_cRA hp0) rfl h16 ?_
      refine g_getN (ci := 8) (k := 0) B d_X3_walkersIn_17 q_in8 rfl (q_Wlt (q_RW hp0 h16)) ((q_cW (q_RW hp0 h16)) _ _) (by decide) w_WaterOthers_Reach_50 rfl rfl ?_
      refine g_if_eq (tgt := 44) B d_X3_walkersIn_20 (by decide) h (fun h => ?_) (fun h => ?_)
      · refine g_iconst (v := 0) B d_X3_walkersIn_44 (by decide) ?_
        refine g_ior B d_X3_walkersIn_45 ?_
        refine g_istore_n B d_X3_walkersIn_46 rfl (by decide) ?_
        refine g_iinc (v := (x3 + 1)) B d_X3_walkersIn_47 rfl rfl (by decide) ?_
        refine g_goto (tgt := 4) B d_X3_walkersIn_50 (by decide) ?_
        exact g_cut rfl (ih (x2 ||| 0) (x3 + 1) h)
      · refine g_aload_n B d_X3_walkersIn_23 rfl rfl ?_
        refine g_get (ci := 3) (k := 4) (v := .ref (Z.1 (p0 + 1))) B d_X3_walkersIn_24 q_in3 rfl (q_Rlt hp0) ((q_cR hp0) _ _) (by decide) w_WaterOthers_Reach_17 rfl rfl ?_
        refine g_iload_n B d_X3_walkersIn_27 rfl rfl ?_
        refine g_aald (t := 4) (f := (fun j => p0 + 2 + j)) B d_X3_walkersIn_28 (q_RAlt hp0) (q_cRA hp0) rfl h16 ?_
        refine g_getN (ci := 8) (k := 5) (v := .ref (Z.1 ((p0 + 2 + (x3 : Int32).toNatClampNeg) + 6))) B d_X3_walkersIn_29 q_in8 rfl (q_Wlt (q_RW hp0 h16)) ((q_cW (q_RW hp0 h16)) _ _) (by decide) w_WaterOthers_Reach_53 rfl rfl ?_
        refine g_iconst (v := 0) B d_X3_walkersIn_32 (by decide) ?_
        refine g_iald B d_X3_walkersIn_33 (q_WAlt (q_RW hp0 h16)) (q_cWA (q_RW hp0 h16)) (by decide) ?_
        refine g_iload_n B d_X3_walkersIn_34 rfl rfl ?_
        refine g_icmp_ne (tgt := 44) B d_X3_walkersIn_35 (by decide) h (fun h => ?_) (fun h => ?_)
        · refine g_iconst (v := 0) B d_X3_walkersIn_44 (by decide) ?_
          refine g_ior B d_X3_walkersIn_45 ?_
          refine g_istore_n B d_X3_walkersIn_46 rfl (by decide) ?_
          refine g_iinc (v := (x3 + 1)) B d_X3_walkersIn_47 rfl rfl (by decide) ?_
          refine g_goto (tgt := 4) B d_X3_walkersIn_50 (by decide) ?_
          exact g_cut rfl (ih (x2 ||| 0) (x3 + 1) h)
        · refine g_iconst (v := 1) B d_X3_walkersIn_38 (by decide) ?_
          refine g_iload_n B d_X3_walkersIn_39 rfl rfl ?_
          refine g_ishl B d_X3_walkersIn_40 ?_
          refine g_goto (tgt := 45) B d_X3_walkersIn_41 (by decide) ?_
          refine g_ior B d_X3_walkersIn_45 ?_
          refine g_istore_n B d_X3_walkersIn_46 rfl (by decide) ?_
          refine g_iinc (v := (x3 + 1)) B d_X3_walkersIn_47 rfl rfl (by decide) ?_
          refine g_goto (tgt := 4) B d_X3_walkersIn_50 (by decide) ?_
          exact g_cut rfl (ih (x2 ||| (1 <<< (x3 &&& 31))) (x3 + 1) h)
set_option maxRecDepth 20000 in
theorem t_X3_walkersIn {Z : q_Z} {l : Launch} (N : Nat) (o : Nat) (a0 : Int32) (ho : q_R o) (σ : q_S) {r : Int32} (h : f_X3_walkersIn N o a0 σ = some r) : q_M Z l y_X3_walkersIn prog_5_method_5_code 4 (some .int) 1 [.ref (Z.1 o), .int a0] σ (some (.int r)) σ := by
  refine q_met (by decide +kernel) (Nat.le_of_ble_eq_true rfl) (fun Γ hΓ B En => ?_)
  unfold f_X3_walkersIn at h
  refine g_cut (lv' := [(0, .ref (Z.1 o)), (1, .int a0)]) rfl ?_
  refine g_iconst (v := 0) B d_X3_walkersIn_0 (by decide) ?_
  refine g_istore_n B d_X3_walkersIn_1 rfl (by decide) ?_
  refine g_iconst (v := 0) B d_X3_walkersIn_2 (by decide) ?_
  refine g_istore_n B d_X3_walkersIn_3 rfl (by decide) ?_
  exact g_cut rfl (t_X3_walkersIn_4 B En N o a0 ho N 0 0 h)

theorem w_WaterOthers_Reach_61 : Cond.fieldLinkNest "WaterOthers$Reach" 61 "WaterOthers$Walker" "parted" "Z" "WaterOthers" ∈ q_nst := q_memN 84 (by decide +kernel) (by decide +kernel)
theorem w_WaterOthers_Reach_64 : Cond.fieldLinkNest "WaterOthers$Reach" 64 "WaterOthers$Walker" "strayCell" "I" "WaterOthers" ∈ q_nst := q_memN 87 (by decide +kernel) (by decide +kernel)
theorem w_WaterOthers_Reach_67 : Cond.fieldLinkNest "WaterOthers$Reach" 67 "WaterOthers$Walker" "late" "I" "WaterOthers" ∈ q_nst := q_memN 80 (by decide +kernel) (by decide +kernel)
def f_X3_otherCell (o : Nat) (a0 : Nat) (σ : q_S) : Option Int32 :=
  if (σ.1 a0 2) = 0 then (if (σ.1 o 2) = 0 then (if ¬ (((σ.1 a0 1) : Int32) < 0 ∨ 6 ≤ ((σ.1 a0 1) : Int32).toNatClampNeg) then some (σ.1 (a0 + 6) ((σ.1 a0 1) : Int32).toNatClampNeg) else none)
    else (some (-6)))
  else (some (σ.1 a0 3))
set_option maxRecDepth 20000 in
theorem t_X3_otherCell {Z : q_Z} {l : Launch} (o : Nat) (a0 : Nat) (ho : q_R o) (h0 : q_Wk a0) (σ : q_S) {r : Int32} (h : f_X3_otherCell o a0 σ = some r) : q_M Z l y_X3_otherCell prog_5_method_9_code 2 (some .int) 1 [.ref (Z.1 o), .ref (Z.1 a0)] σ (some (.int r)) σ := by
  refine q_met (by decide +kernel) (Nat.le_of_ble_eq_true rfl) (fun Γ hΓ B En => ?_)
  unfold f_X3_otherCell at h
  refine g_cut (lv' := [(0, .ref (Z.1 o)), (1, .ref (Z.1 a0))]) rfl ?_
  refine g_aload_n B d_X3_otherCell_0 rfl rfl ?_
  refine g_getN (ci := 8) (k := 2) B d_X3_otherCell_1 q_in8 rfl (q_Wlt h0) ((q_cW h0) _ _) (by decide) w_WaterOthers_Reach_61 rfl rfl ?_
  refine g_if_eq (tgt := 12) B d_X3_otherCell_4 (by decide) h (fun h => ?_) (fun h => ?_)
  · refine g_aload_n B d_X3_otherCell_12 rfl rfl ?_
    refine g_get (ci := 3) (k := 2) B d_X3_otherCell_13 q_in3 rfl (q_Rlt ho) ((q_cR ho) _ _) (by decide) w_WaterOthers_Reach_32 rfl rfl ?_
    refine g_if_eq (tgt := 24) B d_X3_otherCell_16 (by decide) h (fun h => ?_) (fun h => ?_)
    · refine g_aload_n B d_X3_otherCell_24 rfl rfl ?_
      refine g_getN (ci := 8) (k := 5) (v := .ref (Z.1 (a0 + 6))) B d_X3_otherCell_25 q_in8 rfl (q_Wlt h0) ((q_cW h0) _ _) (by decide) w_WaterOthers_Reach_53 rfl rfl ?_
      refine g_aload_n B d_X3_otherCell_28 rfl rfl ?_
      refine g_getN (ci := 8) (k := 1) B d_X3_otherCell_29 q_in8 rfl (q_Wlt h0) ((q_cW h0) _ _) (by decide) w_WaterOthers_Reach_67 rfl rfl ?_
      obtain ⟨h32, h⟩ := q_chk h
      refine g_iald B d_X3_otherCell_32 (q_WAlt h0) (q_cWA h0) h32 ?_
      obtain rfl := q_po h
      exact g_iret B En d_X3_otherCell_33
    · refine g_bipush (v := (-6)) B d_X3_otherCell_19 (by decide) ?_
      refine g_goto (tgt := 33) B d_X3_otherCell_21 (by decide) ?_
      obtain rfl := q_po h
      exact g_iret B En d_X3_otherCell_33
  · refine g_aload_n B d_X3_otherCell_7 rfl rfl ?_
    refine g_getN (ci := 8) (k := 3) B d_X3_otherCell_8 q_in8 rfl (q_Wlt h0) ((q_cW h0) _ _) (by decide) w_WaterOthers_Reach_64 rfl rfl ?_
    obtain rfl := q_po h
    exact g_iret B En d_X3_otherCell_11

theorem w_WaterOthers_Reach_57 : Cond.methodLink "WaterOthers$Reach" 57 y_X3_otherCell ∈ q_tbl := q_mem 427 (by decide +kernel) (by decide +kernel)
def f_X3_othersIn_4 (N : Nat)  (p0 : Nat) (x1 : Int32) (σ : q_S) : Nat → Int32 → Int32 → Option Int32
  | 0, _, _ => none
  | n + 1, x2, x3 =>
    if (6 : Int32) ≤ x3 then (some x2)
    else (if ¬ ((x3 : Int32) < 0 ∨ 6 ≤ (x3 : Int32).toNatClampNeg) then if (σ.1 (p0 + 2 + (x3 : Int32).toNatClampNeg) 0) = 0 then (f_X3_othersIn_4 N p0 x1 σ n (x2 ||| 0) (x3 + 1))
      else ((f_X3_otherCell p0 (p0 + 2 + (x3 : Int32).toNatClampNeg) σ).bind fun z30 =>
        if z30 = x1 then (f_X3_othersIn_4 N p0 x1 σ n (x2 ||| (1 <<< (x3 &&& 31))) (x3 + 1))
        else (f_X3_othersIn_4 N p0 x1 σ n (x2 ||| 0) (x3 + 1))) else none)
def f_X3_othersIn (N : Nat) (o : Nat) (a0 : Int32) (σ : q_S) : Option Int32 :=
  f_X3_othersIn_4 N o a0 σ N 0 0
set_option maxRecDepth 20000 in
theorem t_X3_othersIn_4 {Z : q_Z} {Γ : q_C} {σ : q_S} {r : Int32} (B : q_B Z Γ prog_5_method_6_code "WaterOthers$Reach" 4 2) (En : q_E Z Γ (some .int) (some (.int r)) σ) (N : Nat)  (p0 : Nat) (x1 : Int32)  (hp0 : q_R p0) : ∀ (n : Nat) (x2 : Int32) (x3 : Int32), f_X3_othersIn_4 N p0 x1 σ n x2 x3 = some r → q_G Z Γ 4 σ 4 [(0, .ref (Z.1 p0)), (1, .int x1), (2, .int x2), (3, .int x3)] [] := by
  intro n
  induction n with
  | zero =>
    intro x2 x3 h
    cases h
  | succ n ih =>
    intro x2 x3 h
    unfold f_X3_othersIn_4 at h
    refine g_iload_n B d_X3_othersIn_4 rfl rfl ?_
    refine g_bipush (v := 6) B d_X3_othersIn_5 (by decide) ?_
    refine g_icmp_ge (tgt := 52) B d_X3_othersIn_7 (by decide) h (fun h => ?_) (fun h => ?_)
    · refine g_iload_n B d_X3_othersIn_52 rfl rfl ?_
      obtain rfl := q_po h
      exact g_iret B En d_X3_othersIn_53
    · refine g_iload_n B d_X3_othersIn_10 rfl rfl ?_
      refine g_aload_n B d_X3_othersIn_11 rfl rfl ?_
      refine g_get (ci := 3) (k := 4) (v := .ref (Z.1 (p0 + 1))) B d_X3_othersIn_12 q_in3 rfl (q_Rlt hp0) ((q_cR hp0) _ _) (by decide) w_WaterOthers_Reach_17 rfl rfl ?_
      refine g_iload_n B d_X3_othersIn_15 rfl rfl ?_
      obtain ⟨h16, h⟩ := q_chk h
      refine g_aald (t := 4) (f := (fun j => p0 + 2 + j)) B d_X3_othersIn_16 (q_RAlt hp0) (q_cRA hp0) rfl h16 ?_
      refine g_getN (ci := 8) (k := 0) B d_X3_othersIn_17 q_in8 rfl (q_Wlt (q_RW hp0 h16)) ((q_cW (q_RW hp0 h16)) _ _) (by decide) w_WaterOthers_Reach_50 rfl rfl ?_
      refine g_if_eq (tgt := 43) B d_X3_othersIn_20 (by decide) h (fun h => ?_) (fun h => ?_)
      · refine g_iconst (v := 0) B d_X3_othersIn_43 (by decide) ?_
        refine g_ior B d_X3_othersIn_44 ?_
        refine g_istore_n B d_X3_othersIn_45 rfl (by decide) ?_
        refine g_iinc (v := (x3 + 1)) B d_X3_othersIn_46 rfl rfl (by decide) ?_
        refine g_goto (tgt := 4) B d_X3_othersIn_49 (by decide) ?_
        exact g_cut rfl (ih (x2 ||| 0) (x3 + 1) h)
      · refine g_aload_n B d_X3_othersIn_23 rfl rfl ?_
        refine g_aload_n B d_X3_othersIn_24 rfl rfl ?_
        refine g_get (ci := 3) (k := 4) (v := .ref (Z.1 (p0 + 1))) B d_X3_othersIn_25 q_in3 rfl (q_Rlt hp0) ((q_cR hp0) _ _) (by decide) w_WaterOthers_Reach_17 rfl rfl ?_
        refine g_iload_n B d_X3_othersIn_28 rfl rfl ?_
        refine g_aald (t := 4) (f := (fun j => p0 + 2 + j)) B d_X3_othersIn_29 (q_RAlt hp0) (q_cRA hp0) rfl h16 ?_
        obtain ⟨z30, g30, h⟩ := q_bind h
        refine g_callV (p0 := p0) (ci := 3) (As := [.ref (Z.1 (p0 + 2 + (x3 : Int32).toNatClampNeg))]) (rest := [.int x2]) B d_X3_othersIn_30 (t_X3_otherCell p0 (p0 + 2 + (x3 : Int32).toNatClampNeg) hp0 (q_RW hp0 h16) σ g30) m_X3_otherCell w_WaterOthers_Reach_57 (q_Rlt hp0) ((q_cR hp0) _ _) rfl rfl rfl (Nat.le_of_ble_eq_true rfl) (by omega) (by decide) ?_
        refine g_iload_n B d_X3_othersIn_33 rfl rfl ?_
        refine g_icmp_ne (tgt := 43) B d_X3_othersIn_34 (by decide) h (fun h => ?_) (fun h => ?_)
        · refine g_iconst (v := 0) B d_X3_othersIn_43 (by decide) ?_
          refine g_ior B d_X3_othersIn_44 ?_
          refine g_istore_n B d_X3_othersIn_45 rfl (by decide) ?_
          refine g_iinc (v := (x3 + 1)) B d_X3_othersIn_46 rfl rfl (by decide) ?_
          refine g_goto (tgt := 4) B d_X3_othersIn_49 (by decide) ?_
          exact g_cut rfl (ih (x2 ||| 0) (x3 + 1) h)
        · refine g_iconst (v := 1) B d_X3_othersIn_37 (by decide) ?_
          refine g_iload_n B d_X3_othersIn_38 rfl rfl ?_
          refine g_ishl B d_X3_othersIn_39 ?_
          refine g_goto (tgt := 44) B d_X3_othersIn_40 (by decide) ?_
          refine g_ior B d_X3_othersIn_44 ?_
          refine g_istore_n B d_X3_othersIn_45 rfl (by decide) ?_
          refine g_iinc (v := (x3 + 1)) B d_X3_othersIn_46 rfl rfl (by decide) ?_
          refine g_goto (tgt := 4) B d_X3_othersIn_49 (by decide) ?_
          exact g_cut rfl (ih (x2 ||| (1 <<< (x3 &&& 31))) (x3 + 1) h)
set_option maxRecDepth 20000 in
theorem t_X3_othersIn {Z : q_Z} {l : Launch} (N : Nat) (o : Nat) (a0 : Int32) (ho : q_R o) (σ : q_S) {r : Int32} (h : f_X3_othersIn N o a0 σ = some r) : q_M Z l y_X3_othersIn prog_5_method_6_code 4 (some .int) 2 [.ref (Z.1 o), .int a0] σ (some (.int r)) σ := by
  refine q_met (by decide +kernel) (Nat.le_of_ble_eq_true rfl) (fun Γ hΓ B En => ?_)
  unfold f_X3_othersIn at h
  refine g_cut (lv' := [(0, .ref (Z.1 o)), (1, .int a0)]) rfl ?_
  refine g_iconst (v := 0) B d_X3_othersIn_0 (by decide) ?_
  refine g_istore_n B d_X3_othersIn_1 rfl (by decide) ?_
  refine g_iconst (v := 0) B d_X3_othersIn_2 (by decide) ?_
  refine g_istore_n B d_X3_othersIn_3 rfl (by decide) ?_
  exact g_cut rfl (t_X3_othersIn_4 B En N o a0 ho N 0 0 h)

def f_X3_partedCount_4 (N : Nat)  (p0 : Nat) (σ : q_S) : Nat → Int32 → Int32 → Option Int32
  | 0, _, _ => none
  | n + 1, x1, x2 =>
    if (6 : Int32) ≤ x2 then (some x1)
    else (if ¬ ((x2 : Int32) < 0 ∨ 6 ≤ (x2 : Int32).toNatClampNeg) then if (σ.1 (p0 + 2 + (x2 : Int32).toNatClampNeg) 0) = 0 then (f_X3_partedCount_4 N p0 σ n (x1 + 0) (x2 + 1))
      else (if (σ.1 (p0 + 2 + (x2 : Int32).toNatClampNeg) 2) = 0 then (f_X3_partedCount_4 N p0 σ n (x1 + 0) (x2 + 1))
        else (f_X3_partedCount_4 N p0 σ n (x1 + 1) (x2 + 1))) else none)
def f_X3_partedCount (N : Nat) (o : Nat) (σ : q_S) : Option Int32 :=
  f_X3_partedCount_4 N o σ N 0 0
set_option maxRecDepth 20000 in
theorem t_X3_partedCount_4 {Z : q_Z} {Γ : q_C} {σ : q_S} {r : Int32} (B : q_B Z Γ prog_5_method_7_code "WaterOthers$Reach" 3 1) (En : q_E Z Γ (some .int) (some (.int r)) σ) (N : Nat)  (p0 : Nat)  (hp0 : q_R p0) : ∀ (n : Nat) (x1 : Int32) (x2 : Int32), f_X3_partedCount_4 N p0 σ n x1 x2 = some r → q_G Z Γ 3 σ 4 [(0, .ref (Z.1 p0)), (1, .int x1), (2, .int x2)] [] := by
  intro n
  induction n with
  | zero =>
    intro x1 x2 h
    cases h
  | succ n ih =>
    intro x1 x2 h
    unfold f_X3_partedCount_4 at h
    refine g_iload_n B d_X3_partedCount_4 rfl rfl ?_
    refine g_bipush (v := 6) B d_X3_partedCount_5 (by decide) ?_
    refine g_icmp_ge (tgt := 48) B d_X3_partedCount_7 (by decide) h (fun h => ?_) (fun h => ?_)
    · refine g_iload_n B d_X3_partedCount_48 rfl rfl ?_
      obtain rfl := q_po h
      exact g_iret B En d_X3_partedCount_49
    · refine g_iload_n B d_X3_partedCount_10 rfl rfl ?_
      refine g_aload_n B d_X3_partedCount_11 rfl rfl ?_
      refine g_get (ci := 3) (k := 4) (v := .ref (Z.1 (p0 + 1))) B d_X3_partedCount_12 q_in3 rfl (q_Rlt hp0) ((q_cR hp0) _ _) (by decide) w_WaterOthers_Reach_17 rfl rfl ?_
      refine g_iload_n B d_X3_partedCount_15 rfl rfl ?_
      obtain ⟨h16, h⟩ := q_chk h
      refine g_aald (t := 4) (f := (fun j => p0 + 2 + j)) B d_X3_partedCount_16 (q_RAlt hp0) (q_cRA hp0) rfl h16 ?_
      refine g_getN (ci := 8) (k := 0) B d_X3_partedCount_17 q_in8 rfl (q_Wlt (q_RW hp0 h16)) ((q_cW (q_RW hp0 h16)) _ _) (by decide) w_WaterOthers_Reach_50 rfl rfl ?_
      refine g_if_eq (tgt := 39) B d_X3_partedCount_20 (by decide) h (fun h => ?_) (fun h => ?_)
      · refine g_iconst (v := 0) B d_X3_partedCount_39 (by decide) ?_
        refine g_iadd B d_X3_partedCount_40 ?_
        refine g_istore_n B d_X3_partedCount_41 rfl (by decide) ?_
        refine g_iinc (v := (x2 + 1)) B d_X3_partedCount_42 rfl rfl (by decide) ?_
        refine g_goto (tgt := 4) B d_X3_partedCount_45 (by decide) ?_
        exact g_cut rfl (ih (x1 + 0) (x2 + 1) h)
      · refine g_aload_n B d_X3_partedCount_23 rfl rfl ?_
        refine g_get (ci := 3) (k := 4) (v := .ref (Z.1 (p0 + 1))) B d_X3_partedCount_24 q_in3 rfl (q_Rlt hp0) ((q_cR hp0) _ _) (by decide) w_WaterOthers_Reach_17 rfl rfl ?_
        refine g_iload_n B d_X3_partedCount_27 rfl rfl ?_
        refine g_aald (t := 4) (f := (fun j => p0 + 2 + j)) B d_X3_partedCount_28 (q_RAlt hp0) (q_cRA hp0) rfl h16 ?_
        refine g_getN (ci := 8) (k := 2) B d_X3_partedCount_29 q_in8 rfl (q_Wlt (q_RW hp0 h16)) ((q_cW (q_RW hp0 h16)) _ _) (by decide) w_WaterOthers_Reach_61 rfl rfl ?_
        refine g_if_eq (tgt := 39) B d_X3_partedCount_32 (by decide) h (fun h => ?_) (fun h => ?_)
        · refine g_iconst (v := 0) B d_X3_partedCount_39 (by decide) ?_
          refine g_iadd B d_X3_partedCount_40 ?_
          refine g_istore_n B d_X3_partedCount_41 rfl (by decide) ?_
          refine g_iinc (v := (x2 + 1)) B d_X3_partedCount_42 rfl rfl (by decide) ?_
          refine g_goto (tgt := 4) B d_X3_partedCount_45 (by decide) ?_
          exact g_cut rfl (ih (x1 + 0) (x2 + 1) h)
        · refine g_iconst (v := 1) B d_X3_partedCount_35 (by decide) ?_
          refine g_goto (tgt := 40) B d_X3_partedCount_36 (by decide) ?_
          refine g_iadd B d_X3_partedCount_40 ?_
          refine g_istore_n B d_X3_partedCount_41 rfl (by decide) ?_
          refine g_iinc (v := (x2 + 1)) B d_X3_partedCount_42 rfl rfl (by decide) ?_
          refine g_goto (tgt := 4) B d_X3_partedCount_45 (by decide) ?_
          exact g_cut rfl (ih (x1 + 1) (x2 + 1) h)
set_option maxRecDepth 20000 in
theorem t_X3_partedCount {Z : q_Z} {l : Launch} (N : Nat) (o : Nat) (ho : q_R o) (σ : q_S) {r : Int32} (h : f_X3_partedCount N o σ = some r) : q_M Z l y_X3_partedCount prog_5_method_7_code 3 (some .int) 1 [.ref (Z.1 o)] σ (some (.int r)) σ := by
  refine q_met (by decide +kernel) (Nat.le_of_ble_eq_true rfl) (fun Γ hΓ B En => ?_)
  unfold f_X3_partedCount at h
  refine g_cut (lv' := [(0, .ref (Z.1 o))]) rfl ?_
  refine g_iconst (v := 0) B d_X3_partedCount_0 (by decide) ?_
  refine g_istore_n B d_X3_partedCount_1 rfl (by decide) ?_
  refine g_iconst (v := 0) B d_X3_partedCount_2 (by decide) ?_
  refine g_istore_n B d_X3_partedCount_3 rfl (by decide) ?_
  exact g_cut rfl (t_X3_partedCount_4 B En N o ho N 0 0 h)

def f_X3_cellSum_4 (N : Nat)  (p0 : Nat) (σ : q_S) : Nat → Int32 → Int32 → Option Int32
  | 0, _, _ => none
  | n + 1, x1, x2 =>
    if (6 : Int32) ≤ x2 then (some x1)
    else (if ¬ ((x2 : Int32) < 0 ∨ 6 ≤ (x2 : Int32).toNatClampNeg) then if (σ.1 (p0 + 2 + (x2 : Int32).toNatClampNeg) 0) = 0 then (f_X3_cellSum_4 N p0 σ n (x1 + 0) (x2 + 1))
      else (f_X3_cellSum_4 N p0 σ n (x1 + (σ.1 ((p0 + 2 + (x2 : Int32).toNatClampNeg) + 6) (0 : Int32).toNatClampNeg)) (x2 + 1)) else none)
def f_X3_cellSum (N : Nat) (o : Nat) (σ : q_S) : Option Int32 :=
  f_X3_cellSum_4 N o σ N 0 0
set_option maxRecDepth 20000 in
theorem t_X3_cellSum_4 {Z : q_Z} {Γ : q_C} {σ : q_S} {r : Int32} (B : q_B Z Γ prog_5_method_8_code "WaterOthers$Reach" 3 1) (En : q_E Z Γ (some .int) (some (.int r)) σ) (N : Nat)  (p0 : Nat)  (hp0 : q_R p0) : ∀ (n : Nat) (x1 : Int32) (x2 : Int32), f_X3_cellSum_4 N p0 σ n x1 x2 = some r → q_G Z Γ 3 σ 4 [(0, .ref (Z.1 p0)), (1, .int x1), (2, .int x2)] [] := by
  intro n
  induction n with
  | zero =>
    intro x1 x2 h
    cases h
  | succ n ih =>
    intro x1 x2 h
    unfold f_X3_cellSum_4 at h
    refine g_iload_n B d_X3_cellSum_4 rfl rfl ?_
    refine g_bipush (v := 6) B d_X3_cellSum_5 (by decide) ?_
    refine g_icmp_ge (tgt := 46) B d_X3_cellSum_7 (by decide) h (fun h => ?_) (fun h => ?_)
    · refine g_iload_n B d_X3_cellSum_46 rfl rfl ?_
      obtain rfl := q_po h
      exact g_iret B En d_X3_cellSum_47
    · refine g_iload_n B d_X3_cellSum_10 rfl rfl ?_
      refine g_aload_n B d_X3_cellSum_11 rfl rfl ?_
      refine g_get (ci := 3) (k := 4) (v := .ref (Z.1 (p0 + 1))) B d_X3_cellSum_12 q_in3 rfl (q_Rlt hp0) ((q_cR hp0) _ _) (by decide) w_WaterOthers_Reach_17 rfl rfl ?_
      refine g_iload_n B d_X3_cellSum_15 rfl rfl ?_
      obtain ⟨h16, h⟩ := q_chk h
      refine g_aald (t := 4) (f := (fun j => p0 + 2 + j)) B d_X3_cellSum_16 (q_RAlt hp0) (q_cRA hp0) rfl h16 ?_
      refine g_getN (ci := 8) (k := 0) B d_X3_cellSum_17 q_in8 rfl (q_Wlt (q_RW hp0 h16)) ((q_cW (q_RW hp0 h16)) _ _) (by decide) w_WaterOthers_Reach_50 rfl rfl ?_
      refine g_if_eq (tgt := 37) B d_X3_cellSum_20 (by decide) h (fun h => ?_) (fun h => ?_)
      · refine g_iconst (v := 0) B d_X3_cellSum_37 (by decide) ?_
        refine g_iadd B d_X3_cellSum_38 ?_
        refine g_istore_n B d_X3_cellSum_39 rfl (by decide) ?_
        refine g_iinc (v := (x2 + 1)) B d_X3_cellSum_40 rfl rfl (by decide) ?_
        refine g_goto (tgt := 4) B d_X3_cellSum_43 (by decide) ?_
        exact g_cut rfl (ih (x1 + 0) (x2 + 1) h)
      · refine g_aload_n B d_X3_cellSum_23 rfl rfl ?_
        refine g_get (ci := 3) (k := 4) (v := .ref (Z.1 (p0 + 1))) B d_X3_cellSum_24 q_in3 rfl (q_Rlt hp0) ((q_cR hp0) _ _) (by decide) w_WaterOthers_Reach_17 rfl rfl ?_
        refine g_iload_n B d_X3_cellSum_27 rfl rfl ?_
        refine g_aald (t := 4) (f := (fun j => p0 + 2 + j)) B d_X3_cellSum_28 (q_RAlt hp0) (q_cRA hp0) rfl h16 ?_
        refine g_getN (ci := 8) (k := 5) (v := .ref (Z.1 ((p0 + 2 + (x2 : Int32).toNatClampNeg) + 6))) B d_X3_cellSum_29 q_in8 rfl (q_Wlt (q_RW hp0 h16)) ((q_cW (q_RW hp0 h16)) _ _) (by decide) w_WaterOthers_Reach_53 rfl rfl ?_
        refine g_iconst (v := 0) B d_X3_cellSum_32 (by decide) ?_
        refine g_iald B d_X3_cellSum_33 (q_WAlt (q_RW hp0 h16)) (q_cWA (q_RW hp0 h16)) (by decide) ?_
        refine g_goto (tgt := 38) B d_X3_cellSum_34 (by decide) ?_
        refine g_iadd B d_X3_cellSum_38 ?_
        refine g_istore_n B d_X3_cellSum_39 rfl (by decide) ?_
        refine g_iinc (v := (x2 + 1)) B d_X3_cellSum_40 rfl rfl (by decide) ?_
        refine g_goto (tgt := 4) B d_X3_cellSum_43 (by decide) ?_
        exact g_cut rfl (ih (x1 + (σ.1 ((p0 + 2 + (x2 : Int32).toNatClampNeg) + 6) (0 : Int32).toNatClampNeg)) (x2 + 1) h)
set_option maxRecDepth 20000 in
theorem t_X3_cellSum {Z : q_Z} {l : Launch} (N : Nat) (o : Nat) (ho : q_R o) (σ : q_S) {r : Int32} (h : f_X3_cellSum N o σ = some r) : q_M Z l y_X3_cellSum prog_5_method_8_code 3 (some .int) 1 [.ref (Z.1 o)] σ (some (.int r)) σ := by
  refine q_met (by decide +kernel) (Nat.le_of_ble_eq_true rfl) (fun Γ hΓ B En => ?_)
  unfold f_X3_cellSum at h
  refine g_cut (lv' := [(0, .ref (Z.1 o))]) rfl ?_
  refine g_iconst (v := 0) B d_X3_cellSum_0 (by decide) ?_
  refine g_istore_n B d_X3_cellSum_1 rfl (by decide) ?_
  refine g_iconst (v := 0) B d_X3_cellSum_2 (by decide) ?_
  refine g_istore_n B d_X3_cellSum_3 rfl (by decide) ?_
  exact g_cut rfl (t_X3_cellSum_4 B En N o ho N 0 0 h)

def f_X3_isHeld (o : Nat) (a0 : Nat) (σ : q_S) : Int32 :=
  if (σ.1 o 2) = 0 then (if (σ.1 a0 2) = 0 then (1)
    else (0))
  else (0)
theorem rb_X3_isHeld (o : Nat) (a0 : Nat) (σ : q_S) : f_X3_isHeld o a0 σ = 0 ∨ f_X3_isHeld o a0 σ = 1 := by
  unfold f_X3_isHeld
  repeat' split
  all_goals simp
set_option maxRecDepth 20000 in
theorem t_X3_isHeld {Z : q_Z} {l : Launch} (o : Nat) (a0 : Nat) (ho : q_R o) (h0 : q_Wk a0) (σ : q_S) {r : Int32} (h : f_X3_isHeld o a0 σ = r) : q_M Z l y_X3_isHeld prog_5_method_10_code 2 (some .boolean) 1 [.ref (Z.1 o), .ref (Z.1 a0)] σ (some (.int r)) σ := by
  refine q_met (by decide +kernel) (Nat.le_of_ble_eq_true rfl) (fun Γ hΓ B En => ?_)
  unfold f_X3_isHeld at h
  refine g_cut (lv' := [(0, .ref (Z.1 o)), (1, .ref (Z.1 a0))]) rfl ?_
  refine g_aload_n B d_X3_isHeld_0 rfl rfl ?_
  refine g_get (ci := 3) (k := 2) B d_X3_isHeld_1 q_in3 rfl (q_Rlt ho) ((q_cR ho) _ _) (by decide) w_WaterOthers_Reach_32 rfl rfl ?_
  refine g_if_ne (tgt := 18) B d_X3_isHeld_4 (by decide) h (fun h => ?_) (fun h => ?_)
  · refine g_iconst (v := 0) B d_X3_isHeld_18 (by decide) ?_
    subst h
    exact g_zret B En d_X3_isHeld_19 (by decide)
  · refine g_aload_n B d_X3_isHeld_7 rfl rfl ?_
    refine g_getN (ci := 8) (k := 2) B d_X3_isHeld_8 q_in8 rfl (q_Wlt h0) ((q_cW h0) _ _) (by decide) w_WaterOthers_Reach_61 rfl rfl ?_
    refine g_if_ne (tgt := 18) B d_X3_isHeld_11 (by decide) h (fun h => ?_) (fun h => ?_)
    · refine g_iconst (v := 0) B d_X3_isHeld_18 (by decide) ?_
      subst h
      exact g_zret B En d_X3_isHeld_19 (by decide)
    · refine g_iconst (v := 1) B d_X3_isHeld_14 (by decide) ?_
      refine g_goto (tgt := 19) B d_X3_isHeld_15 (by decide) ?_
      subst h
      exact g_zret B En d_X3_isHeld_19 (by decide)

def f_X3_isStoneInReach (o : Nat) (a0 : Nat) (σ : q_S) : Int32 :=
  if (σ.1 a0 2) = 0 then (if (σ.1 o 2) = 0 then (1)
    else (0))
  else (if (σ.1 a0 3) = (σ.1 (a0 + 6) (0 : Int32).toNatClampNeg) then (1)
    else (0))
theorem rb_X3_isStoneInReach (o : Nat) (a0 : Nat) (σ : q_S) : f_X3_isStoneInReach o a0 σ = 0 ∨ f_X3_isStoneInReach o a0 σ = 1 := by
  unfold f_X3_isStoneInReach
  repeat' split
  all_goals simp
set_option maxRecDepth 20000 in
theorem t_X3_isStoneInReach {Z : q_Z} {l : Launch} (o : Nat) (a0 : Nat) (ho : q_R o) (h0 : q_Wk a0) (σ : q_S) {r : Int32} (h : f_X3_isStoneInReach o a0 σ = r) : q_M Z l y_X3_isStoneInReach prog_5_method_12_code 2 (some .boolean) 1 [.ref (Z.1 o), .ref (Z.1 a0)] σ (some (.int r)) σ := by
  refine q_met (by decide +kernel) (Nat.le_of_ble_eq_true rfl) (fun Γ hΓ B En => ?_)
  unfold f_X3_isStoneInReach at h
  refine g_cut (lv' := [(0, .ref (Z.1 o)), (1, .ref (Z.1 a0))]) rfl ?_
  refine g_aload_n B d_X3_isStoneInReach_0 rfl rfl ?_
  refine g_getN (ci := 8) (k := 2) B d_X3_isStoneInReach_1 q_in8 rfl (q_Wlt h0) ((q_cW h0) _ _) (by decide) w_WaterOthers_Reach_61 rfl rfl ?_
  refine g_if_eq (tgt := 28) B d_X3_isStoneInReach_4 (by decide) h (fun h => ?_) (fun h => ?_)
  · refine g_aload_n B d_X3_isStoneInReach_28 rfl rfl ?_
    refine g_get (ci := 3) (k := 2) B d_X3_isStoneInReach_29 q_in3 rfl (q_Rlt ho) ((q_cR ho) _ _) (by decide) w_WaterOthers_Reach_32 rfl rfl ?_
    refine g_if_ne (tgt := 39) B d_X3_isStoneInReach_32 (by decide) h (fun h => ?_) (fun h => ?_)
    · refine g_iconst (v := 0) B d_X3_isStoneInReach_39 (by decide) ?_
      subst h
      exact g_zret B En d_X3_isStoneInReach_40 (by decide)
    · refine g_iconst (v := 1) B d_X3_isStoneInReach_35 (by decide) ?_
      refine g_goto (tgt := 40) B d_X3_isStoneInReach_36 (by decide) ?_
      subst h
      exact g_zret B En d_X3_isStoneInReach_40 (by decide)
  · refine g_aload_n B d_X3_isStoneInReach_7 rfl rfl ?_
    refine g_getN (ci := 8) (k := 3) B d_X3_isStoneInReach_8 q_in8 rfl (q_Wlt h0) ((q_cW h0) _ _) (by decide) w_WaterOthers_Reach_64 rfl rfl ?_
    refine g_aload_n B d_X3_isStoneInReach_11 rfl rfl ?_
    refine g_getN (ci := 8) (k := 5) (v := .ref (Z.1 (a0 + 6))) B d_X3_isStoneInReach_12 q_in8 rfl (q_Wlt h0) ((q_cW h0) _ _) (by decide) w_WaterOthers_Reach_53 rfl rfl ?_
    refine g_iconst (v := 0) B d_X3_isStoneInReach_15 (by decide) ?_
    refine g_iald B d_X3_isStoneInReach_16 (q_WAlt h0) (q_cWA h0) (by decide) ?_
    refine g_icmp_ne (tgt := 24) B d_X3_isStoneInReach_17 (by decide) h (fun h => ?_) (fun h => ?_)
    · refine g_iconst (v := 0) B d_X3_isStoneInReach_24 (by decide) ?_
      refine g_goto (tgt := 40) B d_X3_isStoneInReach_25 (by decide) ?_
      subst h
      exact g_zret B En d_X3_isStoneInReach_40 (by decide)
    · refine g_iconst (v := 1) B d_X3_isStoneInReach_20 (by decide) ?_
      refine g_goto (tgt := 40) B d_X3_isStoneInReach_21 (by decide) ?_
      subst h
      exact g_zret B En d_X3_isStoneInReach_40 (by decide)

theorem w_WaterOthers_Reach_100 : Cond.methodLink "WaterOthers$Reach" 100 y_X3_othersIn ∈ q_tbl := q_mem 423 (by decide +kernel) (by decide +kernel)
theorem w_WaterOthers_Reach_82 : Cond.methodLinkNest "WaterOthers$Reach" 82 y_X9_isCell "WaterOthers" ∈ q_nst := q_memN 407 (by decide +kernel) (by decide +kernel)
theorem w_WaterOthers_Reach_85 : Cond.methodLink "WaterOthers$Reach" 85 y_X3_isHeld ∈ q_tbl := q_mem 408 (by decide +kernel) (by decide +kernel)
theorem w_WaterOthers_Reach_88 : Cond.methodLink "WaterOthers$Reach" 88 y_X8_otherBehindStep ∈ q_tbl := q_mem 412 (by decide +kernel) (by decide +kernel)
theorem w_WaterOthers_Reach_92 : Cond.methodLink "WaterOthers$Reach" 92 y_J9_abs_0f7a4 ∈ q_tbl := q_mem 416 (by decide +kernel) (by decide +kernel)
theorem w_WaterOthers_Reach_97 : Cond.methodLink "WaterOthers$Reach" 97 y_X3_walkersIn ∈ q_tbl := q_mem 419 (by decide +kernel) (by decide +kernel)
def f_X3_whyNoStep_87 (N : Nat)  (x4 : Int32) (t0 : Int32) (σ : q_S) : Option Int32 :=
  if x4 = 0 then (some 0)
  else (if t0 = 0 then (some 0)
    else (some 4))
def f_X3_whyNoStep_60 (N : Nat)  (p0 : Nat) (x1 : Int32) (x2 : Int32) (t0 : Int32) (σ : q_S) : Option Int32 :=
  (f_X3_walkersIn N p0 x2 σ).bind fun z64 =>
  (f_X3_othersIn N p0 x2 σ).bind fun z69 =>
  if ((z64 ||| z69) &&& ((1 <<< (x1 &&& 31)) ^^^ (-1))) = 0 then (f_X3_whyNoStep_87 N t0 0 σ)
  else (f_X3_whyNoStep_87 N t0 1 σ)
def f_X3_whyNoStep_43 (N : Nat)  (p0 : Nat) (x1 : Int32) (x2 : Int32) (σ : q_S) : Option Int32 :=
  if (((σ.1 p0 0) >>> (x2 &&& 31)) &&& 1) = 1 then (f_X3_whyNoStep_60 N p0 x1 x2 1 σ)
  else (f_X3_whyNoStep_60 N p0 x1 x2 0 σ)
def f_X3_whyNoStep (N : Nat) (o : Nat) (a0 : Int32) (a1 : Int32) (σ : q_S) : Option Int32 :=
  if (f_X9_isCell a1) = 0 then (some 2)
  else (if ¬ ((a0 : Int32) < 0 ∨ 6 ≤ (a0 : Int32).toNatClampNeg) then if (f_X3_isHeld o (o + 2 + (a0 : Int32).toNatClampNeg) σ) = 0 then (f_X3_whyNoStep_43 N o a0 a1 σ)
    else ((f_X8_otherBehindStep (o + 2 + (a0 : Int32).toNatClampNeg) a1 σ).bind fun z27 =>
      if (f_J9_abs_0f7a4 (a1 - z27)) ≤ (σ.1 o 1) then (f_X3_whyNoStep_43 N o a0 a1 σ)
      else (some 3)) else none)
set_option maxRecDepth 20000 in
theorem t_X3_whyNoStep_87 {Z : q_Z} {Γ : q_C} {σ : q_S} {r : Int32} (B : q_B Z Γ prog_5_method_13_code "WaterOthers$Reach" 6 3) (En : q_E Z Γ (some .int) (some (.int r)) σ) (N : Nat)  (x4 : Int32) (t0 : Int32)   (h : f_X3_whyNoStep_87 N x4 t0 σ = some r) : q_G Z Γ 6 σ 87 [(4, .int x4)] [.int t0] := by
  unfold f_X3_whyNoStep_87 at h
  refine g_istore B d_X3_whyNoStep_87 (by decide) ?_
  refine g_iload B d_X3_whyNoStep_89 rfl ?_
  refine g_if_eq (tgt := 103) B d_X3_whyNoStep_91 (by decide) h (fun h => ?_) (fun h => ?_)
  · refine g_iconst (v := 0) B d_X3_whyNoStep_103 (by decide) ?_
    obtain rfl := q_po h
    exact g_iret B En d_X3_whyNoStep_104
  · refine g_iload B d_X3_whyNoStep_94 rfl ?_
    refine g_if_eq (tgt := 103) B d_X3_whyNoStep_96 (by decide) h (fun h => ?_) (fun h => ?_)
    · refine g_iconst (v := 0) B d_X3_whyNoStep_103 (by decide) ?_
      obtain rfl := q_po h
      exact g_iret B En d_X3_whyNoStep_104
    · refine g_iconst (v := 4) B d_X3_whyNoStep_99 (by decide) ?_
      refine g_goto (tgt := 104) B d_X3_whyNoStep_100 (by decide) ?_
      obtain rfl := q_po h
      exact g_iret B En d_X3_whyNoStep_104
set_option maxRecDepth 20000 in
theorem t_X3_whyNoStep_60 {Z : q_Z} {Γ : q_C} {σ : q_S} {r : Int32} (B : q_B Z Γ prog_5_method_13_code "WaterOthers$Reach" 6 3) (En : q_E Z Γ (some .int) (some (.int r)) σ) (N : Nat)  (p0 : Nat) (x1 : Int32) (x2 : Int32) (t0 : Int32)  (hp0 : q_R p0) (h : f_X3_whyNoStep_60 N p0 x1 x2 t0 σ = some r) : q_G Z Γ 6 σ 60 [(0, .ref (Z.1 p0)), (1, .int x1), (2, .int x2)] [.int t0] := by
  unfold f_X3_whyNoStep_60 at h
  refine g_istore B d_X3_whyNoStep_60 (by decide) ?_
  refine g_aload_n B d_X3_whyNoStep_62 rfl rfl ?_
  refine g_iload_n B d_X3_whyNoStep_63 rfl rfl ?_
  obtain ⟨z64, g64, h⟩ := q_bind h
  refine g_callV (p0 := p0) (ci := 3) (As := [.int x2]) (rest := []) B d_X3_whyNoStep_64 (t_X3_walkersIn N p0 x2 hp0 σ g64) m_X3_walkersIn w_WaterOthers_Reach_97 (q_Rlt hp0) ((q_cR hp0) _ _) rfl rfl rfl (Nat.le_of_ble_eq_true rfl) (by omega) (by decide) ?_
  refine g_aload_n B d_X3_whyNoStep_67 rfl rfl ?_
  refine g_iload_n B d_X3_whyNoStep_68 rfl rfl ?_
  obtain ⟨z69, g69, h⟩ := q_bind h
  refine g_callV (p0 := p0) (ci := 3) (As := [.int x2]) (rest := [.int z64]) B d_X3_whyNoStep_69 (t_X3_othersIn N p0 x2 hp0 σ g69) m_X3_othersIn w_WaterOthers_Reach_100 (q_Rlt hp0) ((q_cR hp0) _ _) rfl rfl rfl (Nat.le_of_ble_eq_true rfl) (by omega) (by decide) ?_
  refine g_ior B d_X3_whyNoStep_72 ?_
  refine g_iconst (v := 1) B d_X3_whyNoStep_73 (by decide) ?_
  refine g_iload_n B d_X3_whyNoStep_74 rfl rfl ?_
  refine g_ishl B d_X3_whyNoStep_75 ?_
  refine g_iconst (v := (-1)) B d_X3_whyNoStep_76 (by decide) ?_
  refine g_ixor B d_X3_whyNoStep_77 ?_
  refine g_iand B d_X3_whyNoStep_78 ?_
  refine g_if_eq (tgt := 86) B d_X3_whyNoStep_79 (by decide) h (fun h => ?_) (fun h => ?_)
  · refine g_iconst (v := 0) B d_X3_whyNoStep_86 (by decide) ?_
    exact g_cut rfl (t_X3_whyNoStep_87 B En N t0 0 h)
  · refine g_iconst (v := 1) B d_X3_whyNoStep_82 (by decide) ?_
    refine g_goto (tgt := 87) B d_X3_whyNoStep_83 (by decide) ?_
    exact g_cut rfl (t_X3_whyNoStep_87 B En N t0 1 h)
set_option maxRecDepth 20000 in
theorem t_X3_whyNoStep_43 {Z : q_Z} {Γ : q_C} {σ : q_S} {r : Int32} (B : q_B Z Γ prog_5_method_13_code "WaterOthers$Reach" 6 3) (En : q_E Z Γ (some .int) (some (.int r)) σ) (N : Nat)  (p0 : Nat) (x1 : Int32) (x2 : Int32)  (hp0 : q_R p0) (h : f_X3_whyNoStep_43 N p0 x1 x2 σ = some r) : q_G Z Γ 6 σ 43 [(0, .ref (Z.1 p0)), (1, .int x1), (2, .int x2)] [] := by
  unfold f_X3_whyNoStep_43 at h
  refine g_aload_n B d_X3_whyNoStep_43 rfl rfl ?_
  refine g_get (ci := 3) (k := 0) B d_X3_whyNoStep_44 q_in3 rfl (q_Rlt hp0) ((q_cR hp0) _ _) (by decide) w_WaterOthers_Reach_29 rfl rfl ?_
  refine g_iload_n B d_X3_whyNoStep_47 rfl rfl ?_
  refine g_ishr B d_X3_whyNoStep_48 ?_
  refine g_iconst (v := 1) B d_X3_whyNoStep_49 (by decide) ?_
  refine g_iand B d_X3_whyNoStep_50 ?_
  refine g_iconst (v := 1) B d_X3_whyNoStep_51 (by decide) ?_
  refine g_icmp_ne (tgt := 59) B d_X3_whyNoStep_52 (by decide) h (fun h => ?_) (fun h => ?_)
  · refine g_iconst (v := 0) B d_X3_whyNoStep_59 (by decide) ?_
    exact g_cut rfl (t_X3_whyNoStep_60 B En N p0 x1 x2 0 hp0 h)
  · refine g_iconst (v := 1) B d_X3_whyNoStep_55 (by decide) ?_
    refine g_goto (tgt := 60) B d_X3_whyNoStep_56 (by decide) ?_
    exact g_cut rfl (t_X3_whyNoStep_60 B En N p0 x1 x2 1 hp0 h)
set_option maxRecDepth 20000 in
theorem t_X3_whyNoStep {Z : q_Z} {l : Launch} (N : Nat) (o : Nat) (a0 : Int32) (a1 : Int32) (ho : q_R o) (σ : q_S) {r : Int32} (h : f_X3_whyNoStep N o a0 a1 σ = some r) : q_M Z l y_X3_whyNoStep prog_5_method_13_code 6 (some .int) 3 [.ref (Z.1 o), .int a0, .int a1] σ (some (.int r)) σ := by
  refine q_met (by decide +kernel) (Nat.le_of_ble_eq_true rfl) (fun Γ hΓ B En => ?_)
  unfold f_X3_whyNoStep at h
  refine g_cut (lv' := [(0, .ref (Z.1 o)), (1, .int a0), (2, .int a1)]) rfl ?_
  refine g_iload_n B d_X3_whyNoStep_0 rfl rfl ?_
  refine g_callSN (As := [.int a1]) (rest := []) B d_X3_whyNoStep_1 (t_X9_isCell a1 σ rfl) m_X9_isCell w_WaterOthers_Reach_82 rfl rfl (Nat.le_of_ble_eq_true rfl) (by omega) (by decide) ?_
  refine g_if_ne (tgt := 9) B d_X3_whyNoStep_4 (by decide) h (fun h => ?_) (fun h => ?_)
  · refine g_aload_n B d_X3_whyNoStep_9 rfl rfl ?_
    refine g_get (ci := 3) (k := 4) (v := .ref (Z.1 (o + 1))) B d_X3_whyNoStep_10 q_in3 rfl (q_Rlt ho) ((q_cR ho) _ _) (by decide) w_WaterOthers_Reach_17 rfl rfl ?_
    refine g_iload_n B d_X3_whyNoStep_13 rfl rfl ?_
    obtain ⟨h14, h⟩ := q_chk h
    refine g_aald (t := 4) (f := (fun j => o + 2 + j)) B d_X3_whyNoStep_14 (q_RAlt ho) (q_cRA ho) rfl h14 ?_
    refine g_astore_n B d_X3_whyNoStep_15 rfl (by decide) ?_
    refine g_aload_n B d_X3_whyNoStep_16 rfl rfl ?_
    refine g_aload_n B d_X3_whyNoStep_17 rfl rfl ?_
    refine g_callV (p0 := o) (ci := 3) (As := [.ref (Z.1 (o + 2 + (a0 : Int32).toNatClampNeg))]) (rest := []) B d_X3_whyNoStep_18 (t_X3_isHeld o (o + 2 + (a0 : Int32).toNatClampNeg) ho (q_RW ho h14) σ rfl) m_X3_isHeld w_WaterOthers_Reach_85 (q_Rlt ho) ((q_cR ho) _ _) rfl rfl rfl (Nat.le_of_ble_eq_true rfl) (by omega) (by decide) ?_
    refine g_if_eq (tgt := 43) B d_X3_whyNoStep_21 (by decide) h (fun h => ?_) (fun h => ?_)
    · exact g_cut rfl (t_X3_whyNoStep_43 B En N o a0 a1 ho h)
    · refine g_iload_n B d_X3_whyNoStep_24 rfl rfl ?_
      refine g_aload_n B d_X3_whyNoStep_25 rfl rfl ?_
      refine g_iload_n B d_X3_whyNoStep_26 rfl rfl ?_
      obtain ⟨z27, g27, h⟩ := q_bind h
      refine g_callV (p0 := (o + 2 + (a0 : Int32).toNatClampNeg)) (ci := 8) (As := [.int a1]) (rest := [.int a1]) B d_X3_whyNoStep_27 (t_X8_otherBehindStep (o + 2 + (a0 : Int32).toNatClampNeg) a1 (q_RW ho h14) σ g27) m_X8_otherBehindStep w_WaterOthers_Reach_88 (q_Wlt (q_RW ho h14)) ((q_cW (q_RW ho h14)) _ _) rfl rfl rfl (Nat.le_of_ble_eq_true rfl) (by omega) (by decide) ?_
      refine g_isub B d_X3_whyNoStep_30 ?_
      refine g_callS (As := [.int (a1 - z27)]) (rest := []) B d_X3_whyNoStep_31 (t_J9_abs_0f7a4 (a1 - z27) σ rfl) m_J9_abs_0f7a4 w_WaterOthers_Reach_92 rfl rfl (Nat.le_of_ble_eq_true rfl) (by omega) (by decide) ?_
      refine g_aload_n B d_X3_whyNoStep_34 rfl rfl ?_
      refine g_get (ci := 3) (k := 1) B d_X3_whyNoStep_35 q_in3 rfl (q_Rlt ho) ((q_cR ho) _ _) (by decide) w_WaterOthers_Reach_9 rfl rfl ?_
      refine g_icmp_le (tgt := 43) B d_X3_whyNoStep_38 (by decide) h (fun h => ?_) (fun h => ?_)
      · exact g_cut rfl (t_X3_whyNoStep_43 B En N o a0 a1 ho h)
      · refine g_iconst (v := 3) B d_X3_whyNoStep_41 (by decide) ?_
        obtain rfl := q_po h
        exact g_iret B En d_X3_whyNoStep_42
  · refine g_iconst (v := 2) B d_X3_whyNoStep_7 (by decide) ?_
    obtain rfl := q_po h
    exact g_iret B En d_X3_whyNoStep_8

theorem w_WaterOthers_Reach_70 : Cond.methodLink "WaterOthers$Reach" 70 y_X3_has ∈ q_tbl := q_mem 398 (by decide +kernel) (by decide +kernel)
theorem w_WaterOthers_Reach_74 : Cond.methodLink "WaterOthers$Reach" 74 y_X3_isStoneInReach ∈ q_tbl := q_mem 399 (by decide +kernel) (by decide +kernel)
theorem w_WaterOthers_Reach_78 : Cond.methodLink "WaterOthers$Reach" 78 y_X3_whyNoStep ∈ q_tbl := q_mem 403 (by decide +kernel) (by decide +kernel)
def f_X3_whyNot (N : Nat) (o : Nat) (a0 : Int32) (a1 : Int32) (σ : q_S) : Option Int32 :=
  if a1 = 126 then (some 0)
  else (if a1 = 46 then (if (σ.1 o 3) < 999 then (some 0)
      else (some 6))
    else ((f_X3_has o a0 σ).bind fun z33 =>
      if z33 = 0 then (some 1)
      else (if a1 = 42 then (if ¬ ((a0 : Int32) < 0 ∨ 6 ≤ (a0 : Int32).toNatClampNeg) then if (f_X3_isStoneInReach o (o + 2 + (a0 : Int32).toNatClampNeg) σ) = 0 then (some 5)
          else (some 0) else none)
        else (if a1 = 61 then (some 0)
          else (if ¬ ((a0 : Int32) < 0 ∨ 6 ≤ (a0 : Int32).toNatClampNeg) then if a1 = 62 then ((f_X3_whyNoStep N o a0 ((σ.1 ((o + 2 + (a0 : Int32).toNatClampNeg) + 6) (0 : Int32).toNatClampNeg) + 1) σ).bind fun z99 =>
              some z99)
            else ((f_X3_whyNoStep N o a0 ((σ.1 ((o + 2 + (a0 : Int32).toNatClampNeg) + 6) (0 : Int32).toNatClampNeg) + (-1)) σ).bind fun z99 =>
              some z99) else none)))))
set_option maxRecDepth 20000 in
theorem t_X3_whyNot {Z : q_Z} {l : Launch} (N : Nat) (o : Nat) (a0 : Int32) (a1 : Int32) (ho : q_R o) (σ : q_S) {r : Int32} (h : f_X3_whyNot N o a0 a1 σ = some r) : q_M Z l y_X3_whyNot prog_5_method_11_code 3 (some .int) 4 [.ref (Z.1 o), .int a0, .int a1] σ (some (.int r)) σ := by
  refine q_met (by decide +kernel) (Nat.le_of_ble_eq_true rfl) (fun Γ hΓ B En => ?_)
  unfold f_X3_whyNot at h
  refine g_cut (lv' := [(0, .ref (Z.1 o)), (1, .int a0), (2, .int a1)]) rfl ?_
  refine g_iload_n B d_X3_whyNot_0 rfl rfl ?_
  refine g_bipush (v := 126) B d_X3_whyNot_1 (by decide) ?_
  refine g_icmp_ne (tgt := 8) B d_X3_whyNot_3 (by decide) h (fun h => ?_) (fun h => ?_)
  · refine g_iload_n B d_X3_whyNot_8 rfl rfl ?_
    refine g_bipush (v := 46) B d_X3_whyNot_9 (by decide) ?_
    refine g_icmp_ne (tgt := 31) B d_X3_whyNot_11 (by decide) h (fun h => ?_) (fun h => ?_)
    · refine g_aload_n B d_X3_whyNot_31 rfl rfl ?_
      refine g_iload_n B d_X3_whyNot_32 rfl rfl ?_
      obtain ⟨z33, g33, h⟩ := q_bind h
      refine g_callV (p0 := o) (ci := 3) (As := [.int a0]) (rest := []) B d_X3_whyNot_33 (t_X3_has o a0 ho σ g33) m_X3_has w_WaterOthers_Reach_70 (q_Rlt ho) ((q_cR ho) _ _) rfl rfl rfl (Nat.le_of_ble_eq_true rfl) (by omega) (by decide) ?_
      refine g_if_ne (tgt := 41) B d_X3_whyNot_36 (by decide) h (fun h => ?_) (fun h => ?_)
      · refine g_iload_n B d_X3_whyNot_41 rfl rfl ?_
        refine g_bipush (v := 42) B d_X3_whyNot_42 (by decide) ?_
        refine g_icmp_ne (tgt := 66) B d_X3_whyNot_44 (by decide) h (fun h => ?_) (fun h => ?_)
        · refine g_iload_n B d_X3_whyNot_66 rfl rfl ?_
          refine g_bipush (v := 61) B d_X3_whyNot_67 (by decide) ?_
          refine g_icmp_ne (tgt := 74) B d_X3_whyNot_69 (by decide) h (fun h => ?_) (fun h => ?_)
          · refine g_aload_n B d_X3_whyNot_74 rfl rfl ?_
            refine g_iload_n B d_X3_whyNot_75 rfl rfl ?_
            refine g_aload_n B d_X3_whyNot_76 rfl rfl ?_
            refine g_get (ci := 3) (k := 4) (v := .ref (Z.1 (o + 1))) B d_X3_whyNot_77 q_in3 rfl (q_Rlt ho) ((q_cR ho) _ _) (by decide) w_WaterOthers_Reach_17 rfl rfl ?_
            refine g_iload_n B d_X3_whyNot_80 rfl rfl ?_
            obtain ⟨h81, h⟩ := q_chk h
            refine g_aald (t := 4) (f := (fun j => o + 2 + j)) B d_X3_whyNot_81 (q_RAlt ho) (q_cRA ho) rfl h81 ?_
            refine g_getN (ci := 8) (k := 5) (v := .ref (Z.1 ((o + 2 + (a0 : Int32).toNatClampNeg) + 6))) B d_X3_whyNot_82 q_in8 rfl (q_Wlt (q_RW ho h81)) ((q_cW (q_RW ho h81)) _ _) (by decide) w_WaterOthers_Reach_53 rfl rfl ?_
            refine g_iconst (v := 0) B d_X3_whyNot_85 (by decide) ?_
            refine g_iald B d_X3_whyNot_86 (q_WAlt (q_RW ho h81)) (q_cWA (q_RW ho h81)) (by decide) ?_
            refine g_iload_n B d_X3_whyNot_87 rfl rfl ?_
            refine g_bipush (v := 62) B d_X3_whyNot_88 (by decide) ?_
            refine g_icmp_ne (tgt := 97) B d_X3_whyNot_90 (by decide) h (fun h => ?_) (fun h => ?_)
            · refine g_iconst (v := (-1)) B d_X3_whyNot_97 (by decide) ?_
              refine g_iadd B d_X3_whyNot_98 ?_
              obtain ⟨z99, g99, h⟩ := q_bind h
              refine g_callV (p0 := o) (ci := 3) (As := [.int a0, .int ((σ.1 ((o + 2 + (a0 : Int32).toNatClampNeg) + 6) (0 : Int32).toNatClampNeg) + (-1))]) (rest := []) B d_X3_whyNot_99 (t_X3_whyNoStep N o a0 ((σ.1 ((o + 2 + (a0 : Int32).toNatClampNeg) + 6) (0 : Int32).toNatClampNeg) + (-1)) ho σ g99) m_X3_whyNoStep w_WaterOthers_Reach_78 (q_Rlt ho) ((q_cR ho) _ _) rfl rfl rfl (Nat.le_of_ble_eq_true rfl) (by omega) (by decide) ?_
              obtain rfl := q_po h
              exact g_iret B En d_X3_whyNot_102
            · refine g_iconst (v := 1) B d_X3_whyNot_93 (by decide) ?_
              refine g_goto (tgt := 98) B d_X3_whyNot_94 (by decide) ?_
              refine g_iadd B d_X3_whyNot_98 ?_
              obtain ⟨z99, g99, h⟩ := q_bind h
              refine g_callV (p0 := o) (ci := 3) (As := [.int a0, .int ((σ.1 ((o + 2 + (a0 : Int32).toNatClampNeg) + 6) (0 : Int32).toNatClampNeg) + 1)]) (rest := []) B d_X3_whyNot_99 (t_X3_whyNoStep N o a0 ((σ.1 ((o + 2 + (a0 : Int32).toNatClampNeg) + 6) (0 : Int32).toNatClampNeg) + 1) ho σ g99) m_X3_whyNoStep w_WaterOthers_Reach_78 (q_Rlt ho) ((q_cR ho) _ _) rfl rfl rfl (Nat.le_of_ble_eq_true rfl) (by omega) (by decide) ?_
              obtain rfl := q_po h
              exact g_iret B En d_X3_whyNot_102
          · refine g_iconst (v := 0) B d_X3_whyNot_72 (by decide) ?_
            obtain rfl := q_po h
            exact g_iret B En d_X3_whyNot_73
        · refine g_aload_n B d_X3_whyNot_47 rfl rfl ?_
          refine g_aload_n B d_X3_whyNot_48 rfl rfl ?_
          refine g_get (ci := 3) (k := 4) (v := .ref (Z.1 (o + 1))) B d_X3_whyNot_49 q_in3 rfl (q_Rlt ho) ((q_cR ho) _ _) (by decide) w_WaterOthers_Reach_17 rfl rfl ?_
          refine g_iload_n B d_X3_whyNot_52 rfl rfl ?_
          obtain ⟨h53, h⟩ := q_chk h
          refine g_aald (t := 4) (f := (fun j => o + 2 + j)) B d_X3_whyNot_53 (q_RAlt ho) (q_cRA ho) rfl h53 ?_
          refine g_callV (p0 := o) (ci := 3) (As := [.ref (Z.1 (o + 2 + (a0 : Int32).toNatClampNeg))]) (rest := []) B d_X3_whyNot_54 (t_X3_isStoneInReach o (o + 2 + (a0 : Int32).toNatClampNeg) ho (q_RW ho h53) σ rfl) m_X3_isStoneInReach w_WaterOthers_Reach_74 (q_Rlt ho) ((q_cR ho) _ _) rfl rfl rfl (Nat.le_of_ble_eq_true rfl) (by omega) (by decide) ?_
          refine g_if_eq (tgt := 64) B d_X3_whyNot_57 (by decide) h (fun h => ?_) (fun h => ?_)
          · refine g_iconst (v := 5) B d_X3_whyNot_64 (by decide) ?_
            obtain rfl := q_po h
            exact g_iret B En d_X3_whyNot_65
          · refine g_iconst (v := 0) B d_X3_whyNot_60 (by decide) ?_
            refine g_goto (tgt := 65) B d_X3_whyNot_61 (by decide) ?_
            obtain rfl := q_po h
            exact g_iret B En d_X3_whyNot_65
      · refine g_iconst (v := 1) B d_X3_whyNot_39 (by decide) ?_
        obtain rfl := q_po h
        exact g_iret B En d_X3_whyNot_40
    · refine g_aload_n B d_X3_whyNot_14 rfl rfl ?_
      refine g_get (ci := 3) (k := 3) B d_X3_whyNot_15 q_in3 rfl (q_Rlt ho) ((q_cR ho) _ _) (by decide) w_WaterOthers_Reach_36 rfl rfl ?_
      refine g_sipush (v := 999) B d_X3_whyNot_18 (by decide) ?_
      refine g_icmp_lt (tgt := 29) B d_X3_whyNot_21 (by decide) h (fun h => ?_) (fun h => ?_)
      · refine g_iconst (v := 0) B d_X3_whyNot_29 (by decide) ?_
        obtain rfl := q_po h
        exact g_iret B En d_X3_whyNot_30
      · refine g_bipush (v := 6) B d_X3_whyNot_24 (by decide) ?_
        refine g_goto (tgt := 30) B d_X3_whyNot_26 (by decide) ?_
        obtain rfl := q_po h
        exact g_iret B En d_X3_whyNot_30
  · refine g_iconst (v := 0) B d_X3_whyNot_6 (by decide) ?_
    obtain rfl := q_po h
    exact g_iret B En d_X3_whyNot_7

theorem w_WaterOthers_Reach_113 : Cond.methodLink "WaterOthers$Reach" 113 y_X8_beginAt ∈ q_tbl := q_mem 439 (by decide +kernel) (by decide +kernel)
def f_X3_turnWind_18 (N : Nat)  (p0 : Nat)  : Nat → Int32 → q_S → Option q_S
  | 0, _, _ => none
  | n + 1, x1, σ =>
    if (6 : Int32) ≤ x1 then (some σ)
    else (if ¬ ((x1 : Int32) < 0 ∨ 6 ≤ (x1 : Int32).toNatClampNeg) then if (σ.1 (p0 + 2 + (x1 : Int32).toNatClampNeg) 2) = 0 then ((f_X8_beginAt N (p0 + 2 + (x1 : Int32).toNatClampNeg) (σ.1 ((p0 + 2 + (x1 : Int32).toNatClampNeg) + 6) (0 : Int32).toNatClampNeg) σ).bind fun z53 =>
        f_X3_turnWind_18 N p0 n (x1 + 1) z53)
      else (f_X3_turnWind_18 N p0 n (x1 + 1) σ) else none)
def f_X3_turnWind (N : Nat) (o : Nat) (σ : q_S) : Option q_S :=
  if (σ.1 o 2) = 0 then (f_X3_turnWind_18 N o N 0 (q_w σ o 2 1))
  else (f_X3_turnWind_18 N o N 0 (q_w σ o 2 0))
set_option maxRecDepth 20000 in
theorem t_X3_turnWind_18 {Z : q_Z} {Γ : q_C} {σ' : q_S} (B : q_B Z Γ prog_5_method_16_code "WaterOthers$Reach" 2 3) (En : q_E Z Γ none none σ') (N : Nat)  (p0 : Nat)  (hp0 : q_R p0) : ∀ (n : Nat) (x1 : Int32) (σ : q_S), f_X3_turnWind_18 N p0 n x1 σ = some σ' → q_G Z Γ 2 σ 18 [(0, .ref (Z.1 p0)), (1, .int x1)] [] := by
  intro n
  induction n with
  | zero =>
    intro x1 σ h
    cases h
  | succ n ih =>
    intro x1 σ h
    unfold f_X3_turnWind_18 at h
    refine g_iload_n B d_X3_turnWind_18 rfl rfl ?_
    refine g_bipush (v := 6) B d_X3_turnWind_19 (by decide) ?_
    refine g_icmp_ge (tgt := 62) B d_X3_turnWind_21 (by decide) h (fun h => ?_) (fun h => ?_)
    · obtain rfl := q_po h
      exact g_vret B En d_X3_turnWind_62
    · refine g_aload_n B d_X3_turnWind_24 rfl rfl ?_
      refine g_get (ci := 3) (k := 4) (v := .ref (Z.1 (p0 + 1))) B d_X3_turnWind_25 q_in3 rfl (q_Rlt hp0) ((q_cR hp0) _ _) (by decide) w_WaterOthers_Reach_17 rfl rfl ?_
      refine g_iload_n B d_X3_turnWind_28 rfl rfl ?_
      obtain ⟨h29, h⟩ := q_chk h
      refine g_aald (t := 4) (f := (fun j => p0 + 2 + j)) B d_X3_turnWind_29 (q_RAlt hp0) (q_cRA hp0) rfl h29 ?_
      refine g_getN (ci := 8) (k := 2) B d_X3_turnWind_30 q_in8 rfl (q_Wlt (q_RW hp0 h29)) ((q_cW (q_RW hp0 h29)) _ _) (by decide) w_WaterOthers_Reach_61 rfl rfl ?_
      refine g_if_ne (tgt := 56) B d_X3_turnWind_33 (by decide) h (fun h => ?_) (fun h => ?_)
      · refine g_iinc (v := (x1 + 1)) B d_X3_turnWind_56 rfl rfl (by decide) ?_
        refine g_goto (tgt := 18) B d_X3_turnWind_59 (by decide) ?_
        exact g_cut rfl (ih (x1 + 1) σ h)
      · refine g_aload_n B d_X3_turnWind_36 rfl rfl ?_
        refine g_get (ci := 3) (k := 4) (v := .ref (Z.1 (p0 + 1))) B d_X3_turnWind_37 q_in3 rfl (q_Rlt hp0) ((q_cR hp0) _ _) (by decide) w_WaterOthers_Reach_17 rfl rfl ?_
        refine g_iload_n B d_X3_turnWind_40 rfl rfl ?_
        refine g_aald (t := 4) (f := (fun j => p0 + 2 + j)) B d_X3_turnWind_41 (q_RAlt hp0) (q_cRA hp0) rfl h29 ?_
        refine g_aload_n B d_X3_turnWind_42 rfl rfl ?_
        refine g_get (ci := 3) (k := 4) (v := .ref (Z.1 (p0 + 1))) B d_X3_turnWind_43 q_in3 rfl (q_Rlt hp0) ((q_cR hp0) _ _) (by decide) w_WaterOthers_Reach_17 rfl rfl ?_
        refine g_iload_n B d_X3_turnWind_46 rfl rfl ?_
        refine g_aald (t := 4) (f := (fun j => p0 + 2 + j)) B d_X3_turnWind_47 (q_RAlt hp0) (q_cRA hp0) rfl h29 ?_
        refine g_getN (ci := 8) (k := 5) (v := .ref (Z.1 ((p0 + 2 + (x1 : Int32).toNatClampNeg) + 6))) B d_X3_turnWind_48 q_in8 rfl (q_Wlt (q_RW hp0 h29)) ((q_cW (q_RW hp0 h29)) _ _) (by decide) w_WaterOthers_Reach_53 rfl rfl ?_
        refine g_iconst (v := 0) B d_X3_turnWind_51 (by decide) ?_
        refine g_iald B d_X3_turnWind_52 (q_WAlt (q_RW hp0 h29)) (q_cWA (q_RW hp0 h29)) (by decide) ?_
        obtain ⟨z53, g53, h⟩ := q_bind h
        refine g_callV (p0 := (p0 + 2 + (x1 : Int32).toNatClampNeg)) (ci := 8) (As := [.int (σ.1 ((p0 + 2 + (x1 : Int32).toNatClampNeg) + 6) (0 : Int32).toNatClampNeg)]) (rest := []) B d_X3_turnWind_53 (t_X8_beginAt N (p0 + 2 + (x1 : Int32).toNatClampNeg) (σ.1 ((p0 + 2 + (x1 : Int32).toNatClampNeg) + 6) (0 : Int32).toNatClampNeg) (q_RW hp0 h29) σ g53) m_X8_beginAt w_WaterOthers_Reach_113 (q_Wlt (q_RW hp0 h29)) ((q_cW (q_RW hp0 h29)) _ _) rfl rfl rfl (Nat.le_of_ble_eq_true rfl) (by omega) (by decide) ?_
        refine g_iinc (v := (x1 + 1)) B d_X3_turnWind_56 rfl rfl (by decide) ?_
        refine g_goto (tgt := 18) B d_X3_turnWind_59 (by decide) ?_
        exact g_cut rfl (ih (x1 + 1) z53 h)
set_option maxRecDepth 20000 in
theorem t_X3_turnWind {Z : q_Z} {l : Launch} (N : Nat) (o : Nat) (ho : q_R o) (σ : q_S) {σ' : q_S} (h : f_X3_turnWind N o σ = some σ') : q_M Z l y_X3_turnWind prog_5_method_16_code 2 none 3 [.ref (Z.1 o)] σ none σ' := by
  refine q_met (by decide +kernel) (Nat.le_of_ble_eq_true rfl) (fun Γ hΓ B En => ?_)
  unfold f_X3_turnWind at h
  refine g_cut (lv' := [(0, .ref (Z.1 o))]) rfl ?_
  refine g_aload_n B d_X3_turnWind_0 rfl rfl ?_
  refine g_aload_n B d_X3_turnWind_1 rfl rfl ?_
  refine g_get (ci := 3) (k := 2) B d_X3_turnWind_2 q_in3 rfl (q_Rlt ho) ((q_cR ho) _ _) (by decide) w_WaterOthers_Reach_32 rfl rfl ?_
  refine g_if_ne (tgt := 12) B d_X3_turnWind_5 (by decide) h (fun h => ?_) (fun h => ?_)
  · refine g_iconst (v := 0) B d_X3_turnWind_12 (by decide) ?_
    refine g_put (ci := 3) (k := 2) (v := 0) (ty := .boolean) B d_X3_turnWind_13 q_in3 rfl q_yk3 q_nm3 (q_Rlt ho) (q_cR ho) (by decide) w_WaterOthers_Reach_32 rfl rfl rfl (by decide) (by decide) (Nat.le_of_ble_eq_true rfl) (fun _ _ => rfl) ?_
    refine g_iconst (v := 0) B d_X3_turnWind_16 (by decide) ?_
    refine g_istore_n B d_X3_turnWind_17 rfl (by decide) ?_
    exact g_cut rfl (t_X3_turnWind_18 B En N o ho N 0 (q_w σ o 2 0) h)
  · refine g_iconst (v := 1) B d_X3_turnWind_8 (by decide) ?_
    refine g_goto (tgt := 13) B d_X3_turnWind_9 (by decide) ?_
    refine g_put (ci := 3) (k := 2) (v := 1) (ty := .boolean) B d_X3_turnWind_13 q_in3 rfl q_yk3 q_nm3 (q_Rlt ho) (q_cR ho) (by decide) w_WaterOthers_Reach_32 rfl rfl rfl (by decide) (by decide) (Nat.le_of_ble_eq_true rfl) (fun _ _ => rfl) ?_
    refine g_iconst (v := 0) B d_X3_turnWind_16 (by decide) ?_
    refine g_istore_n B d_X3_turnWind_17 rfl (by decide) ?_
    exact g_cut rfl (t_X3_turnWind_18 B En N o ho N 0 (q_w σ o 2 1) h)

theorem w_WaterOthers_Reach_123 : Cond.methodLink "WaterOthers$Reach" 123 y_X8_stray ∈ q_tbl := q_mem 444 (by decide +kernel) (by decide +kernel)
def f_X3_passBeat_12 (N : Nat)  (p0 : Nat)  : Nat → Int32 → q_S → Option q_S
  | 0, _, _ => none
  | n + 1, x1, σ =>
    if (6 : Int32) ≤ x1 then (some σ)
    else (if ¬ ((x1 : Int32) < 0 ∨ 6 ≤ (x1 : Int32).toNatClampNeg) then if (σ.1 (p0 + 2 + (x1 : Int32).toNatClampNeg) 0) = 0 then (f_X3_passBeat_12 N p0 n (x1 + 1) σ)
      else (if (σ.1 (p0 + 2 + (x1 : Int32).toNatClampNeg) 2) = 0 then (f_X3_passBeat_12 N p0 n (x1 + 1) σ)
        else (f_X3_passBeat_12 N p0 n (x1 + 1) (f_X8_stray (p0 + 2 + (x1 : Int32).toNatClampNeg) σ))) else none)
def f_X3_passBeat (N : Nat) (o : Nat) (σ : q_S) : Option q_S :=
  f_X3_passBeat_12 N o N 0 (q_w σ o 3 ((σ.1 o 3) + 1))
set_option maxRecDepth 20000 in
theorem t_X3_passBeat_12 {Z : q_Z} {Γ : q_C} {σ' : q_S} (B : q_B Z Γ prog_5_method_17_code "WaterOthers$Reach" 2 3) (En : q_E Z Γ none none σ') (N : Nat)  (p0 : Nat)  (hp0 : q_R p0) : ∀ (n : Nat) (x1 : Int32) (σ : q_S), f_X3_passBeat_12 N p0 n x1 σ = some σ' → q_G Z Γ 2 σ 12 [(0, .ref (Z.1 p0)), (1, .int x1)] [] := by
  intro n
  induction n with
  | zero =>
    intro x1 σ h
    cases h
  | succ n ih =>
    intro x1 σ h
    unfold f_X3_passBeat_12 at h
    refine g_iload_n B d_X3_passBeat_12 rfl rfl ?_
    refine g_bipush (v := 6) B d_X3_passBeat_13 (by decide) ?_
    refine g_icmp_ge (tgt := 57) B d_X3_passBeat_15 (by decide) h (fun h => ?_) (fun h => ?_)
    · obtain rfl := q_po h
      exact g_vret B En d_X3_passBeat_57
    · refine g_aload_n B d_X3_passBeat_18 rfl rfl ?_
      refine g_get (ci := 3) (k := 4) (v := .ref (Z.1 (p0 + 1))) B d_X3_passBeat_19 q_in3 rfl (q_Rlt hp0) ((q_cR hp0) _ _) (by decide) w_WaterOthers_Reach_17 rfl rfl ?_
      refine g_iload_n B d_X3_passBeat_22 rfl rfl ?_
      obtain ⟨h23, h⟩ := q_chk h
      refine g_aald (t := 4) (f := (fun j => p0 + 2 + j)) B d_X3_passBeat_23 (q_RAlt hp0) (q_cRA hp0) rfl h23 ?_
      refine g_getN (ci := 8) (k := 0) B d_X3_passBeat_24 q_in8 rfl (q_Wlt (q_RW hp0 h23)) ((q_cW (q_RW hp0 h23)) _ _) (by decide) w_WaterOthers_Reach_50 rfl rfl ?_
      refine g_if_eq (tgt := 51) B d_X3_passBeat_27 (by decide) h (fun h => ?_) (fun h => ?_)
      · refine g_iinc (v := (x1 + 1)) B d_X3_passBeat_51 rfl rfl (by decide) ?_
        refine g_goto (tgt := 12) B d_X3_passBeat_54 (by decide) ?_
        exact g_cut rfl (ih (x1 + 1) σ h)
      · refine g_aload_n B d_X3_passBeat_30 rfl rfl ?_
        refine g_get (ci := 3) (k := 4) (v := .ref (Z.1 (p0 + 1))) B d_X3_passBeat_31 q_in3 rfl (q_Rlt hp0) ((q_cR hp0) _ _) (by decide) w_WaterOthers_Reach_17 rfl rfl ?_
        refine g_iload_n B d_X3_passBeat_34 rfl rfl ?_
        refine g_aald (t := 4) (f := (fun j => p0 + 2 + j)) B d_X3_passBeat_35 (q_RAlt hp0) (q_cRA hp0) rfl h23 ?_
        refine g_getN (ci := 8) (k := 2) B d_X3_passBeat_36 q_in8 rfl (q_Wlt (q_RW hp0 h23)) ((q_cW (q_RW hp0 h23)) _ _) (by decide) w_WaterOthers_Reach_61 rfl rfl ?_
        refine g_if_eq (tgt := 51) B d_X3_passBeat_39 (by decide) h (fun h => ?_) (fun h => ?_)
        · refine g_iinc (v := (x1 + 1)) B d_X3_passBeat_51 rfl rfl (by decide) ?_
          refine g_goto (tgt := 12) B d_X3_passBeat_54 (by decide) ?_
          exact g_cut rfl (ih (x1 + 1) σ h)
        · refine g_aload_n B d_X3_passBeat_42 rfl rfl ?_
          refine g_get (ci := 3) (k := 4) (v := .ref (Z.1 (p0 + 1))) B d_X3_passBeat_43 q_in3 rfl (q_Rlt hp0) ((q_cR hp0) _ _) (by decide) w_WaterOthers_Reach_17 rfl rfl ?_
          refine g_iload_n B d_X3_passBeat_46 rfl rfl ?_
          refine g_aald (t := 4) (f := (fun j => p0 + 2 + j)) B d_X3_passBeat_47 (q_RAlt hp0) (q_cRA hp0) rfl h23 ?_
          refine g_callV (p0 := (p0 + 2 + (x1 : Int32).toNatClampNeg)) (ci := 8) (As := []) (rest := []) B d_X3_passBeat_48 (t_X8_stray (p0 + 2 + (x1 : Int32).toNatClampNeg) (q_RW hp0 h23) σ rfl) m_X8_stray w_WaterOthers_Reach_123 (q_Wlt (q_RW hp0 h23)) ((q_cW (q_RW hp0 h23)) _ _) rfl rfl rfl (Nat.le_of_ble_eq_true rfl) (by omega) (by decide) ?_
          refine g_iinc (v := (x1 + 1)) B d_X3_passBeat_51 rfl rfl (by decide) ?_
          refine g_goto (tgt := 12) B d_X3_passBeat_54 (by decide) ?_
          exact g_cut rfl (ih (x1 + 1) (f_X8_stray (p0 + 2 + (x1 : Int32).toNatClampNeg) σ) h)
set_option maxRecDepth 20000 in
theorem t_X3_passBeat {Z : q_Z} {l : Launch} (N : Nat) (o : Nat) (ho : q_R o) (σ : q_S) {σ' : q_S} (h : f_X3_passBeat N o σ = some σ') : q_M Z l y_X3_passBeat prog_5_method_17_code 2 none 3 [.ref (Z.1 o)] σ none σ' := by
  refine q_met (by decide +kernel) (Nat.le_of_ble_eq_true rfl) (fun Γ hΓ B En => ?_)
  unfold f_X3_passBeat at h
  refine g_cut (lv' := [(0, .ref (Z.1 o))]) rfl ?_
  refine g_aload_n B d_X3_passBeat_0 rfl rfl ?_
  refine g_dup B d_X3_passBeat_1 rfl ?_
  refine g_get (ci := 3) (k := 3) B d_X3_passBeat_2 q_in3 rfl (q_Rlt ho) ((q_cR ho) _ _) (by decide) w_WaterOthers_Reach_36 rfl rfl ?_
  refine g_iconst (v := 1) B d_X3_passBeat_5 (by decide) ?_
  refine g_iadd B d_X3_passBeat_6 ?_
  refine g_put (ci := 3) (k := 3) (v := ((σ.1 o 3) + 1)) (ty := .int) B d_X3_passBeat_7 q_in3 rfl q_yk3 q_nm3 (q_Rlt ho) (q_cR ho) (by decide) w_WaterOthers_Reach_36 rfl rfl rfl rfl rfl (Nat.le_of_ble_eq_true rfl) (fun _ _ => rfl) ?_
  refine g_iconst (v := 0) B d_X3_passBeat_10 (by decide) ?_
  refine g_istore_n B d_X3_passBeat_11 rfl (by decide) ?_
  exact g_cut rfl (t_X3_passBeat_12 B En N o ho N 0 (q_w σ o 3 ((σ.1 o 3) + 1)) h)

theorem w_WaterOthers_Reach_117 : Cond.methodLink "WaterOthers$Reach" 117 y_X8_part ∈ q_tbl := q_mem 455 (by decide +kernel) (by decide +kernel)
theorem w_WaterOthers_Reach_120 : Cond.methodLink "WaterOthers$Reach" 120 y_X8_stepTo ∈ q_tbl := q_mem 459 (by decide +kernel) (by decide +kernel)
def f_X3_actAlone_26 (N : Nat)  (p0 : Nat) (p1 : Nat) (x2 : Int32) (σ : q_S) : Option q_S :=
  if x2 = 42 then ((f_X3_otherCell p0 p1 σ).bind fun z35 =>
    some (f_X8_part p1 z35 σ))
  else (if x2 = 60 then ((f_X8_stepTo N p1 ((σ.1 (p1 + 6) (0 : Int32).toNatClampNeg) - 1) σ).bind fun z59 =>
      some z59)
    else (if x2 = 62 then ((f_X8_stepTo N p1 ((σ.1 (p1 + 6) (0 : Int32).toNatClampNeg) + 1) σ).bind fun z80 =>
        some z80)
      else ((f_X8_stepTo N p1 (σ.1 (p1 + 6) (0 : Int32).toNatClampNeg) σ).bind fun z93 =>
        some z93)))
def f_X3_actAlone (N : Nat) (o : Nat) (a0 : Nat) (a1 : Int32) (σ : q_S) : Option q_S :=
  if a1 = 42 then (if (σ.1 a0 2) = 0 then (f_X3_actAlone_26 N o a0 a1 σ)
    else ((f_X8_beginAt N a0 (σ.1 (a0 + 6) (0 : Int32).toNatClampNeg) σ).bind fun z20 =>
      some z20))
  else (f_X3_actAlone_26 N o a0 a1 σ)
set_option maxRecDepth 20000 in
theorem t_X3_actAlone_26 {Z : q_Z} {Γ : q_C} {σ' : q_S} (B : q_B Z Γ prog_5_method_15_code "WaterOthers$Reach" 3 3) (En : q_E Z Γ none none σ') (N : Nat)  (p0 : Nat) (p1 : Nat) (x2 : Int32)  (σ : q_S) (hp0 : q_R p0) (hp1 : q_Wk p1) (h : f_X3_actAlone_26 N p0 p1 x2 σ = some σ') : q_G Z Γ 3 σ 26 [(0, .ref (Z.1 p0)), (1, .ref (Z.1 p1)), (2, .int x2)] [] := by
  unfold f_X3_actAlone_26 at h
  refine g_iload_n B d_X3_actAlone_26 rfl rfl ?_
  refine g_bipush (v := 42) B d_X3_actAlone_27 (by decide) ?_
  refine g_icmp_ne (tgt := 44) B d_X3_actAlone_29 (by decide) h (fun h => ?_) (fun h => ?_)
  · refine g_iload_n B d_X3_actAlone_44 rfl rfl ?_
    refine g_bipush (v := 60) B d_X3_actAlone_45 (by decide) ?_
    refine g_icmp_ne (tgt := 65) B d_X3_actAlone_47 (by decide) h (fun h => ?_) (fun h => ?_)
    · refine g_iload_n B d_X3_actAlone_65 rfl rfl ?_
      refine g_bipush (v := 62) B d_X3_actAlone_66 (by decide) ?_
      refine g_icmp_ne (tgt := 86) B d_X3_actAlone_68 (by decide) h (fun h => ?_) (fun h => ?_)
      · refine g_aload_n B d_X3_actAlone_86 rfl rfl ?_
        refine g_aload_n B d_X3_actAlone_87 rfl rfl ?_
        refine g_getN (ci := 8) (k := 5) (v := .ref (Z.1 (p1 + 6))) B d_X3_actAlone_88 q_in8 rfl (q_Wlt hp1) ((q_cW hp1) _ _) (by decide) w_WaterOthers_Reach_53 rfl rfl ?_
        refine g_iconst (v := 0) B d_X3_actAlone_91 (by decide) ?_
        refine g_iald B d_X3_actAlone_92 (q_WAlt hp1) (q_cWA hp1) (by decide) ?_
        obtain ⟨z93, g93, h⟩ := q_bind h
        refine g_callV (p0 := p1) (ci := 8) (As := [.int (σ.1 (p1 + 6) (0 : Int32).toNatClampNeg)]) (rest := []) B d_X3_actAlone_93 (t_X8_stepTo N p1 (σ.1 (p1 + 6) (0 : Int32).toNatClampNeg) hp1 σ g93) m_X8_stepTo w_WaterOthers_Reach_120 (q_Wlt hp1) ((q_cW hp1) _ _) rfl rfl rfl (Nat.le_of_ble_eq_true rfl) (by omega) (by decide) ?_
        obtain rfl := q_po h
        exact g_vret B En d_X3_actAlone_96
      · refine g_aload_n B d_X3_actAlone_71 rfl rfl ?_
        refine g_aload_n B d_X3_actAlone_72 rfl rfl ?_
        refine g_getN (ci := 8) (k := 5) (v := .ref (Z.1 (p1 + 6))) B d_X3_actAlone_73 q_in8 rfl (q_Wlt hp1) ((q_cW hp1) _ _) (by decide) w_WaterOthers_Reach_53 rfl rfl ?_
        refine g_iconst (v := 0) B d_X3_actAlone_76 (by decide) ?_
        refine g_iald B d_X3_actAlone_77 (q_WAlt hp1) (q_cWA hp1) (by decide) ?_
        refine g_iconst (v := 1) B d_X3_actAlone_78 (by decide) ?_
        refine g_iadd B d_X3_actAlone_79 ?_
        obtain ⟨z80, g80, h⟩ := q_bind h
        refine g_callV (p0 := p1) (ci := 8) (As := [.int ((σ.1 (p1 + 6) (0 : Int32).toNatClampNeg) + 1)]) (rest := []) B d_X3_actAlone_80 (t_X8_stepTo N p1 ((σ.1 (p1 + 6) (0 : Int32).toNatClampNeg) + 1) hp1 σ g80) m_X8_stepTo w_WaterOthers_Reach_120 (q_Wlt hp1) ((q_cW hp1) _ _) rfl rfl rfl (Nat.le_of_ble_eq_true rfl) (by omega) (by decide) ?_
        refine g_goto (tgt := 96) B d_X3_actAlone_83 (by decide) ?_
        obtain rfl := q_po h
        exact g_vret B En d_X3_actAlone_96
    · refine g_aload_n B d_X3_actAlone_50 rfl rfl ?_
      refine g_aload_n B d_X3_actAlone_51 rfl rfl ?_
      refine g_getN (ci := 8) (k := 5) (v := .ref (Z.1 (p1 + 6))) B d_X3_actAlone_52 q_in8 rfl (q_Wlt hp1) ((q_cW hp1) _ _) (by decide) w_WaterOthers_Reach_53 rfl rfl ?_
      refine g_iconst (v := 0) B d_X3_actAlone_55 (by decide) ?_
      refine g_iald B d_X3_actAlone_56 (q_WAlt hp1) (q_cWA hp1) (by decide) ?_
      refine g_iconst (v := 1) B d_X3_actAlone_57 (by decide) ?_
      refine g_isub B d_X3_actAlone_58 ?_
      obtain ⟨z59, g59, h⟩ := q_bind h
      refine g_callV (p0 := p1) (ci := 8) (As := [.int ((σ.1 (p1 + 6) (0 : Int32).toNatClampNeg) - 1)]) (rest := []) B d_X3_actAlone_59 (t_X8_stepTo N p1 ((σ.1 (p1 + 6) (0 : Int32).toNatClampNeg) - 1) hp1 σ g59) m_X8_stepTo w_WaterOthers_Reach_120 (q_Wlt hp1) ((q_cW hp1) _ _) rfl rfl rfl (Nat.le_of_ble_eq_true rfl) (by omega) (by decide) ?_
      refine g_goto (tgt := 96) B d_X3_actAlone_62 (by decide) ?_
      obtain rfl := q_po h
      exact g_vret B En d_X3_actAlone_96
  · refine g_aload_n B d_X3_actAlone_32 rfl rfl ?_
    refine g_aload_n B d_X3_actAlone_33 rfl rfl ?_
    refine g_aload_n B d_X3_actAlone_34 rfl rfl ?_
    obtain ⟨z35, g35, h⟩ := q_bind h
    refine g_callV (p0 := p0) (ci := 3) (As := [.ref (Z.1 p1)]) (rest := [.ref (Z.1 p1)]) B d_X3_actAlone_35 (t_X3_otherCell p0 p1 hp0 hp1 σ g35) m_X3_otherCell w_WaterOthers_Reach_57 (q_Rlt hp0) ((q_cR hp0) _ _) rfl rfl rfl (Nat.le_of_ble_eq_true rfl) (by omega) (by decide) ?_
    refine g_callV (p0 := p1) (ci := 8) (As := [.int z35]) (rest := []) B d_X3_actAlone_38 (t_X8_part p1 z35 hp1 σ rfl) m_X8_part w_WaterOthers_Reach_117 (q_Wlt hp1) ((q_cW hp1) _ _) rfl rfl rfl (Nat.le_of_ble_eq_true rfl) (by omega) (by decide) ?_
    refine g_goto (tgt := 96) B d_X3_actAlone_41 (by decide) ?_
    obtain rfl := q_po h
    exact g_vret B En d_X3_actAlone_96
set_option maxRecDepth 20000 in
theorem t_X3_actAlone {Z : q_Z} {l : Launch} (N : Nat) (o : Nat) (a0 : Nat) (a1 : Int32) (ho : q_R o) (h0 : q_Wk a0) (σ : q_S) {σ' : q_S} (h : f_X3_actAlone N o a0 a1 σ = some σ') : q_M Z l y_X3_actAlone prog_5_method_15_code 3 none 3 [.ref (Z.1 o), .ref (Z.1 a0), .int a1] σ none σ' := by
  refine q_met (by decide +kernel) (Nat.le_of_ble_eq_true rfl) (fun Γ hΓ B En => ?_)
  unfold f_X3_actAlone at h
  refine g_cut (lv' := [(0, .ref (Z.1 o)), (1, .ref (Z.1 a0)), (2, .int a1)]) rfl ?_
  refine g_iload_n B d_X3_actAlone_0 rfl rfl ?_
  refine g_bipush (v := 42) B d_X3_actAlone_1 (by decide) ?_
  refine g_icmp_ne (tgt := 26) B d_X3_actAlone_3 (by decide) h (fun h => ?_) (fun h => ?_)
  · exact g_cut rfl (t_X3_actAlone_26 B En N o a0 a1 σ ho h0 h)
  · refine g_aload_n B d_X3_actAlone_6 rfl rfl ?_
    refine g_getN (ci := 8) (k := 2) B d_X3_actAlone_7 q_in8 rfl (q_Wlt h0) ((q_cW h0) _ _) (by decide) w_WaterOthers_Reach_61 rfl rfl ?_
    refine g_if_eq (tgt := 26) B d_X3_actAlone_10 (by decide) h (fun h => ?_) (fun h => ?_)
    · exact g_cut rfl (t_X3_actAlone_26 B En N o a0 a1 σ ho h0 h)
    · refine g_aload_n B d_X3_actAlone_13 rfl rfl ?_
      refine g_aload_n B d_X3_actAlone_14 rfl rfl ?_
      refine g_getN (ci := 8) (k := 5) (v := .ref (Z.1 (a0 + 6))) B d_X3_actAlone_15 q_in8 rfl (q_Wlt h0) ((q_cW h0) _ _) (by decide) w_WaterOthers_Reach_53 rfl rfl ?_
      refine g_iconst (v := 0) B d_X3_actAlone_18 (by decide) ?_
      refine g_iald B d_X3_actAlone_19 (q_WAlt h0) (q_cWA h0) (by decide) ?_
      obtain ⟨z20, g20, h⟩ := q_bind h
      refine g_callV (p0 := a0) (ci := 8) (As := [.int (σ.1 (a0 + 6) (0 : Int32).toNatClampNeg)]) (rest := []) B d_X3_actAlone_20 (t_X8_beginAt N a0 (σ.1 (a0 + 6) (0 : Int32).toNatClampNeg) h0 σ g20) m_X8_beginAt w_WaterOthers_Reach_113 (q_Wlt h0) ((q_cW h0) _ _) rfl rfl rfl (Nat.le_of_ble_eq_true rfl) (by omega) (by decide) ?_
      refine g_goto (tgt := 96) B d_X3_actAlone_23 (by decide) ?_
      obtain rfl := q_po h
      exact g_vret B En d_X3_actAlone_96

theorem w_WaterOthers_Reach_103 : Cond.methodLink "WaterOthers$Reach" 103 y_X3_turnWind ∈ q_tbl := q_mem 435 (by decide +kernel) (by decide +kernel)
theorem w_WaterOthers_Reach_106 : Cond.methodLink "WaterOthers$Reach" 106 y_X3_passBeat ∈ q_tbl := q_mem 440 (by decide +kernel) (by decide +kernel)
theorem w_WaterOthers_Reach_109 : Cond.methodLink "WaterOthers$Reach" 109 y_X3_actAlone ∈ q_tbl := q_mem 451 (by decide +kernel) (by decide +kernel)
def f_X3_act (N : Nat) (o : Nat) (a0 : Int32) (a1 : Int32) (σ : q_S) : Option q_S :=
  if a1 = 126 then ((f_X3_turnWind N o σ).bind fun z7 =>
    some z7)
  else (if a1 = 46 then ((f_X3_passBeat N o σ).bind fun z20 =>
      some z20)
    else ((f_X3_has o a0 σ).bind fun z28 =>
      if z28 = 0 then (some σ)
      else (if ¬ ((a0 : Int32) < 0 ∨ 6 ≤ (a0 : Int32).toNatClampNeg) then (f_X3_actAlone N o (o + 2 + (a0 : Int32).toNatClampNeg) a1 σ).bind fun z42 =>
        some z42 else none)))
set_option maxRecDepth 20000 in
theorem t_X3_act {Z : q_Z} {l : Launch} (N : Nat) (o : Nat) (a0 : Int32) (a1 : Int32) (ho : q_R o) (σ : q_S) {σ' : q_S} (h : f_X3_act N o a0 a1 σ = some σ') : q_M Z l y_X3_act prog_5_method_14_code 3 none 4 [.ref (Z.1 o), .int a0, .int a1] σ none σ' := by
  refine q_met (by decide +kernel) (Nat.le_of_ble_eq_true rfl) (fun Γ hΓ B En => ?_)
  unfold f_X3_act at h
  refine g_cut (lv' := [(0, .ref (Z.1 o)), (1, .int a0), (2, .int a1)]) rfl ?_
  refine g_iload_n B d_X3_act_0 rfl rfl ?_
  refine g_bipush (v := 126) B d_X3_act_1 (by decide) ?_
  refine g_icmp_ne (tgt := 13) B d_X3_act_3 (by decide) h (fun h => ?_) (fun h => ?_)
  · refine g_iload_n B d_X3_act_13 rfl rfl ?_
    refine g_bipush (v := 46) B d_X3_act_14 (by decide) ?_
    refine g_icmp_ne (tgt := 26) B d_X3_act_16 (by decide) h (fun h => ?_) (fun h => ?_)
    · refine g_aload_n B d_X3_act_26 rfl rfl ?_
      refine g_iload_n B d_X3_act_27 rfl rfl ?_
      obtain ⟨z28, g28, h⟩ := q_bind h
      refine g_callV (p0 := o) (ci := 3) (As := [.int a0]) (rest := []) B d_X3_act_28 (t_X3_has o a0 ho σ g28) m_X3_has w_WaterOthers_Reach_70 (q_Rlt ho) ((q_cR ho) _ _) rfl rfl rfl (Nat.le_of_ble_eq_true rfl) (by omega) (by decide) ?_
      refine g_if_eq (tgt := 45) B d_X3_act_31 (by decide) h (fun h => ?_) (fun h => ?_)
      · obtain rfl := q_po h
        exact g_vret B En d_X3_act_45
      · refine g_aload_n B d_X3_act_34 rfl rfl ?_
        refine g_aload_n B d_X3_act_35 rfl rfl ?_
        refine g_get (ci := 3) (k := 4) (v := .ref (Z.1 (o + 1))) B d_X3_act_36 q_in3 rfl (q_Rlt ho) ((q_cR ho) _ _) (by decide) w_WaterOthers_Reach_17 rfl rfl ?_
        refine g_iload_n B d_X3_act_39 rfl rfl ?_
        obtain ⟨h40, h⟩ := q_chk h
        refine g_aald (t := 4) (f := (fun j => o + 2 + j)) B d_X3_act_40 (q_RAlt ho) (q_cRA ho) rfl h40 ?_
        refine g_iload_n B d_X3_act_41 rfl rfl ?_
        obtain ⟨z42, g42, h⟩ := q_bind h
        refine g_callV (p0 := o) (ci := 3) (As := [.ref (Z.1 (o + 2 + (a0 : Int32).toNatClampNeg)), .int a1]) (rest := []) B d_X3_act_42 (t_X3_actAlone N o (o + 2 + (a0 : Int32).toNatClampNeg) a1 ho (q_RW ho h40) σ g42) m_X3_actAlone w_WaterOthers_Reach_109 (q_Rlt ho) ((q_cR ho) _ _) rfl rfl rfl (Nat.le_of_ble_eq_true rfl) (by omega) (by decide) ?_
        obtain rfl := q_po h
        exact g_vret B En d_X3_act_45
    · refine g_aload_n B d_X3_act_19 rfl rfl ?_
      obtain ⟨z20, g20, h⟩ := q_bind h
      refine g_callV (p0 := o) (ci := 3) (As := []) (rest := []) B d_X3_act_20 (t_X3_passBeat N o ho σ g20) m_X3_passBeat w_WaterOthers_Reach_106 (q_Rlt ho) ((q_cR ho) _ _) rfl rfl rfl (Nat.le_of_ble_eq_true rfl) (by omega) (by decide) ?_
      refine g_goto (tgt := 45) B d_X3_act_23 (by decide) ?_
      obtain rfl := q_po h
      exact g_vret B En d_X3_act_45
  · refine g_aload_n B d_X3_act_6 rfl rfl ?_
    obtain ⟨z7, g7, h⟩ := q_bind h
    refine g_callV (p0 := o) (ci := 3) (As := []) (rest := []) B d_X3_act_7 (t_X3_turnWind N o ho σ g7) m_X3_turnWind w_WaterOthers_Reach_103 (q_Rlt ho) ((q_cR ho) _ _) rfl rfl rfl (Nat.le_of_ble_eq_true rfl) (by omega) (by decide) ?_
    refine g_goto (tgt := 45) B d_X3_act_10 (by decide) ?_
    obtain rfl := q_po h
    exact g_vret B En d_X3_act_45
