def y_X9_isWithin : MethodName := ⟨"WaterOthers", "isWithin", "(III)Z"⟩
def y_X9_isCell : MethodName := ⟨"WaterOthers", "isCell", "(I)Z"⟩
def y_X9_isEastNext : MethodName := ⟨"WaterOthers", "isEastNext", "(IZ)Z"⟩
def y_X2_add : MethodName := ⟨"WaterOthers$Pad", "add", "(I)Z"⟩
def y_X2_clear : MethodName := ⟨"WaterOthers$Pad", "clear", "()I"⟩
def y_X2_isDeed : MethodName := ⟨"WaterOthers$Pad", "isDeed", "(C)Z"⟩
def y_X2_isLetter : MethodName := ⟨"WaterOthers$Pad", "isLetter", "(C)Z"⟩
def y_X2_isAlone : MethodName := ⟨"WaterOthers$Pad", "isAlone", "(C)Z"⟩
def y_X2_firstFault : MethodName := ⟨"WaterOthers$Pad", "firstFault", "()I"⟩
def y_X8_copy : MethodName := ⟨"WaterOthers$Walker", "copy", "(LWaterOthers$Walker;)V"⟩
def y_X8_otherBehindStep : MethodName := ⟨"WaterOthers$Walker", "otherBehindStep", "(I)I"⟩
def y_X8_beginAt : MethodName := ⟨"WaterOthers$Walker", "beginAt", "(I)V"⟩
def y_X8_arrive : MethodName := ⟨"WaterOthers$Walker", "arrive", "(II)V"⟩
def y_X8_stray : MethodName := ⟨"WaterOthers$Walker", "stray", "()V"⟩
def y_X8_part : MethodName := ⟨"WaterOthers$Walker", "part", "(I)V"⟩
def y_X8_stepTo : MethodName := ⟨"WaterOthers$Walker", "stepTo", "(I)V"⟩
def y_X5_copy : MethodName := ⟨"WaterOthers$Sights", "copy", "(LWaterOthers$Sights;)V"⟩
def y_X5_add : MethodName := ⟨"WaterOthers$Sights", "add", "(II)Z"⟩
theorem d_X9_isWithin_0 : q_dec prog_1_method_27_code 0 (.iload_n 0) 1 1 := ⟨by decide +kernel, rfl⟩
theorem d_X9_isWithin_1 : q_dec prog_1_method_27_code 1 (.iload_n 1) 1 2 := ⟨by decide +kernel, rfl⟩
theorem d_X9_isWithin_2 : q_dec prog_1_method_27_code 2 (.if_icmp .lt 12) 3 5 := ⟨by decide +kernel, rfl⟩
theorem d_X9_isWithin_5 : q_dec prog_1_method_27_code 5 (.iload_n 0) 1 6 := ⟨by decide +kernel, rfl⟩
theorem d_X9_isWithin_6 : q_dec prog_1_method_27_code 6 (.iload_n 2) 1 7 := ⟨by decide +kernel, rfl⟩
theorem d_X9_isWithin_7 : q_dec prog_1_method_27_code 7 (.if_icmp .gt 7) 3 10 := ⟨by decide +kernel, rfl⟩
theorem d_X9_isWithin_10 : q_dec prog_1_method_27_code 10 (.iconst 1) 1 11 := ⟨by decide +kernel, rfl⟩
theorem d_X9_isWithin_11 : q_dec prog_1_method_27_code 11 (.goto 4) 3 14 := ⟨by decide +kernel, rfl⟩
theorem d_X9_isWithin_14 : q_dec prog_1_method_27_code 14 (.iconst 0) 1 15 := ⟨by decide +kernel, rfl⟩
theorem d_X9_isWithin_15 : q_dec prog_1_method_27_code 15 (.ireturn) 1 16 := ⟨by decide +kernel, rfl⟩
theorem m_X9_isWithin : q_wS y_X9_isWithin prog_1_method_27_code 3 (some .boolean) 3 := ⟨q_mem 291 (by decide +kernel) (by decide +kernel), q_mem 290 (by decide +kernel) (by decide +kernel), q_mem 1 (by decide +kernel) (by decide +kernel), by decide +kernel⟩
theorem d_X9_isCell_0 : q_dec prog_1_method_28_code 0 (.iload_n 0) 1 1 := ⟨by decide +kernel, rfl⟩
theorem d_X9_isCell_1 : q_dec prog_1_method_28_code 1 (.iconst 0) 1 2 := ⟨by decide +kernel, rfl⟩
theorem d_X9_isCell_2 : q_dec prog_1_method_28_code 2 (.bipush 19) 2 4 := ⟨by decide +kernel, rfl⟩
theorem d_X9_isCell_4 : q_dec prog_1_method_28_code 4 (.invokestatic 74) 3 7 := ⟨by decide +kernel, rfl⟩
theorem d_X9_isCell_7 : q_dec prog_1_method_28_code 7 (.ireturn) 1 8 := ⟨by decide +kernel, rfl⟩
theorem m_X9_isCell : q_wS y_X9_isCell prog_1_method_28_code 1 (some .boolean) 1 := ⟨q_mem 288 (by decide +kernel) (by decide +kernel), q_mem 287 (by decide +kernel) (by decide +kernel), q_mem 1 (by decide +kernel) (by decide +kernel), by decide +kernel⟩
theorem d_X9_isEastNext_0 : q_dec prog_1_method_31_code 0 (.iload_n 1) 1 1 := ⟨by decide +kernel, rfl⟩
theorem d_X9_isEastNext_1 : q_dec prog_1_method_31_code 1 (.ifCond .eq 17) 3 4 := ⟨by decide +kernel, rfl⟩
theorem d_X9_isEastNext_4 : q_dec prog_1_method_31_code 4 (.iload_n 0) 1 5 := ⟨by decide +kernel, rfl⟩
theorem d_X9_isEastNext_5 : q_dec prog_1_method_31_code 5 (.bipush 19) 2 7 := ⟨by decide +kernel, rfl⟩
theorem d_X9_isEastNext_7 : q_dec prog_1_method_31_code 7 (.if_icmp .ge 7) 3 10 := ⟨by decide +kernel, rfl⟩
theorem d_X9_isEastNext_10 : q_dec prog_1_method_31_code 10 (.iconst 1) 1 11 := ⟨by decide +kernel, rfl⟩
theorem d_X9_isEastNext_11 : q_dec prog_1_method_31_code 11 (.goto 16) 3 14 := ⟨by decide +kernel, rfl⟩
theorem d_X9_isEastNext_14 : q_dec prog_1_method_31_code 14 (.iconst 0) 1 15 := ⟨by decide +kernel, rfl⟩
theorem d_X9_isEastNext_15 : q_dec prog_1_method_31_code 15 (.goto 12) 3 18 := ⟨by decide +kernel, rfl⟩
theorem d_X9_isEastNext_18 : q_dec prog_1_method_31_code 18 (.iload_n 0) 1 19 := ⟨by decide +kernel, rfl⟩
theorem d_X9_isEastNext_19 : q_dec prog_1_method_31_code 19 (.ifCond .gt 7) 3 22 := ⟨by decide +kernel, rfl⟩
theorem d_X9_isEastNext_22 : q_dec prog_1_method_31_code 22 (.iconst 1) 1 23 := ⟨by decide +kernel, rfl⟩
theorem d_X9_isEastNext_23 : q_dec prog_1_method_31_code 23 (.goto 4) 3 26 := ⟨by decide +kernel, rfl⟩
theorem d_X9_isEastNext_26 : q_dec prog_1_method_31_code 26 (.iconst 0) 1 27 := ⟨by decide +kernel, rfl⟩
theorem d_X9_isEastNext_27 : q_dec prog_1_method_31_code 27 (.ireturn) 1 28 := ⟨by decide +kernel, rfl⟩
theorem m_X9_isEastNext : q_wS y_X9_isEastNext prog_1_method_31_code 2 (some .boolean) 2 := ⟨q_mem 450 (by decide +kernel) (by decide +kernel), q_mem 449 (by decide +kernel) (by decide +kernel), q_mem 1 (by decide +kernel) (by decide +kernel), by decide +kernel⟩
theorem d_X2_add_0 : q_dec prog_4_method_2_code 0 (.aload_n 0) 1 1 := ⟨by decide +kernel, rfl⟩
theorem d_X2_add_1 : q_dec prog_4_method_2_code 1 (.getfield 15) 3 4 := ⟨by decide +kernel, rfl⟩
theorem d_X2_add_4 : q_dec prog_4_method_2_code 4 (.bipush 60) 2 6 := ⟨by decide +kernel, rfl⟩
theorem d_X2_add_6 : q_dec prog_4_method_2_code 6 (.if_icmp .lt 5) 3 9 := ⟨by decide +kernel, rfl⟩
theorem d_X2_add_9 : q_dec prog_4_method_2_code 9 (.iconst 0) 1 10 := ⟨by decide +kernel, rfl⟩
theorem d_X2_add_10 : q_dec prog_4_method_2_code 10 (.ireturn) 1 11 := ⟨by decide +kernel, rfl⟩
theorem d_X2_add_11 : q_dec prog_4_method_2_code 11 (.aload_n 0) 1 12 := ⟨by decide +kernel, rfl⟩
theorem d_X2_add_12 : q_dec prog_4_method_2_code 12 (.getfield 11) 3 15 := ⟨by decide +kernel, rfl⟩
theorem d_X2_add_15 : q_dec prog_4_method_2_code 15 (.aload_n 0) 1 16 := ⟨by decide +kernel, rfl⟩
theorem d_X2_add_16 : q_dec prog_4_method_2_code 16 (.getfield 15) 3 19 := ⟨by decide +kernel, rfl⟩
theorem d_X2_add_19 : q_dec prog_4_method_2_code 19 (.iload_n 1) 1 20 := ⟨by decide +kernel, rfl⟩
theorem d_X2_add_20 : q_dec prog_4_method_2_code 20 (.i2c) 1 21 := ⟨by decide +kernel, rfl⟩
theorem d_X2_add_21 : q_dec prog_4_method_2_code 21 (.castore) 1 22 := ⟨by decide +kernel, rfl⟩
theorem d_X2_add_22 : q_dec prog_4_method_2_code 22 (.aload_n 0) 1 23 := ⟨by decide +kernel, rfl⟩
theorem d_X2_add_23 : q_dec prog_4_method_2_code 23 (.dup) 1 24 := ⟨by decide +kernel, rfl⟩
theorem d_X2_add_24 : q_dec prog_4_method_2_code 24 (.getfield 15) 3 27 := ⟨by decide +kernel, rfl⟩
theorem d_X2_add_27 : q_dec prog_4_method_2_code 27 (.iconst 1) 1 28 := ⟨by decide +kernel, rfl⟩
theorem d_X2_add_28 : q_dec prog_4_method_2_code 28 (.iadd) 1 29 := ⟨by decide +kernel, rfl⟩
theorem d_X2_add_29 : q_dec prog_4_method_2_code 29 (.putfield 15) 3 32 := ⟨by decide +kernel, rfl⟩
theorem d_X2_add_32 : q_dec prog_4_method_2_code 32 (.iconst 1) 1 33 := ⟨by decide +kernel, rfl⟩
theorem d_X2_add_33 : q_dec prog_4_method_2_code 33 (.ireturn) 1 34 := ⟨by decide +kernel, rfl⟩
theorem m_X2_add : q_wV y_X2_add prog_4_method_2_code 2 (some .boolean) 1 := ⟨q_mem 337 (by decide +kernel) (by decide +kernel), q_mem 335 (by decide +kernel) (by decide +kernel), q_mem 336 (by decide +kernel) (by decide +kernel), q_mem 2 (by decide +kernel) (by decide +kernel), by decide +kernel⟩
theorem d_X2_clear_0 : q_dec prog_4_method_3_code 0 (.aload_n 0) 1 1 := ⟨by decide +kernel, rfl⟩
theorem d_X2_clear_1 : q_dec prog_4_method_3_code 1 (.getfield 15) 3 4 := ⟨by decide +kernel, rfl⟩
theorem d_X2_clear_4 : q_dec prog_4_method_3_code 4 (.istore_n 1) 1 5 := ⟨by decide +kernel, rfl⟩
theorem d_X2_clear_5 : q_dec prog_4_method_3_code 5 (.aload_n 0) 1 6 := ⟨by decide +kernel, rfl⟩
theorem d_X2_clear_6 : q_dec prog_4_method_3_code 6 (.iconst 0) 1 7 := ⟨by decide +kernel, rfl⟩
theorem d_X2_clear_7 : q_dec prog_4_method_3_code 7 (.putfield 15) 3 10 := ⟨by decide +kernel, rfl⟩
theorem d_X2_clear_10 : q_dec prog_4_method_3_code 10 (.iload_n 1) 1 11 := ⟨by decide +kernel, rfl⟩
theorem d_X2_clear_11 : q_dec prog_4_method_3_code 11 (.ireturn) 1 12 := ⟨by decide +kernel, rfl⟩
theorem m_X2_clear : q_wV y_X2_clear prog_4_method_3_code 2 (some .int) 0 := ⟨q_mem 345 (by decide +kernel) (by decide +kernel), q_mem 343 (by decide +kernel) (by decide +kernel), q_mem 344 (by decide +kernel) (by decide +kernel), q_mem 2 (by decide +kernel) (by decide +kernel), by decide +kernel⟩
theorem d_X2_isDeed_0 : q_dec prog_4_method_7_code 0 (.iload_n 0) 1 1 := ⟨by decide +kernel, rfl⟩
theorem d_X2_isDeed_1 : q_dec prog_4_method_7_code 1 (.bipush 60) 2 3 := ⟨by decide +kernel, rfl⟩
theorem d_X2_isDeed_3 : q_dec prog_4_method_7_code 3 (.if_icmp .eq 21) 3 6 := ⟨by decide +kernel, rfl⟩
theorem d_X2_isDeed_6 : q_dec prog_4_method_7_code 6 (.iload_n 0) 1 7 := ⟨by decide +kernel, rfl⟩
theorem d_X2_isDeed_7 : q_dec prog_4_method_7_code 7 (.bipush 62) 2 9 := ⟨by decide +kernel, rfl⟩
theorem d_X2_isDeed_9 : q_dec prog_4_method_7_code 9 (.if_icmp .eq 15) 3 12 := ⟨by decide +kernel, rfl⟩
theorem d_X2_isDeed_12 : q_dec prog_4_method_7_code 12 (.iload_n 0) 1 13 := ⟨by decide +kernel, rfl⟩
theorem d_X2_isDeed_13 : q_dec prog_4_method_7_code 13 (.bipush 61) 2 15 := ⟨by decide +kernel, rfl⟩
theorem d_X2_isDeed_15 : q_dec prog_4_method_7_code 15 (.if_icmp .eq 9) 3 18 := ⟨by decide +kernel, rfl⟩
theorem d_X2_isDeed_18 : q_dec prog_4_method_7_code 18 (.iload_n 0) 1 19 := ⟨by decide +kernel, rfl⟩
theorem d_X2_isDeed_19 : q_dec prog_4_method_7_code 19 (.bipush 42) 2 21 := ⟨by decide +kernel, rfl⟩
theorem d_X2_isDeed_21 : q_dec prog_4_method_7_code 21 (.if_icmp .ne 7) 3 24 := ⟨by decide +kernel, rfl⟩
theorem d_X2_isDeed_24 : q_dec prog_4_method_7_code 24 (.iconst 1) 1 25 := ⟨by decide +kernel, rfl⟩
theorem d_X2_isDeed_25 : q_dec prog_4_method_7_code 25 (.goto 4) 3 28 := ⟨by decide +kernel, rfl⟩
theorem d_X2_isDeed_28 : q_dec prog_4_method_7_code 28 (.iconst 0) 1 29 := ⟨by decide +kernel, rfl⟩
theorem d_X2_isDeed_29 : q_dec prog_4_method_7_code 29 (.ireturn) 1 30 := ⟨by decide +kernel, rfl⟩
theorem m_X2_isDeed : q_wS y_X2_isDeed prog_4_method_7_code 1 (some .boolean) 1 := ⟨q_mem 356 (by decide +kernel) (by decide +kernel), q_mem 355 (by decide +kernel) (by decide +kernel), q_mem 2 (by decide +kernel) (by decide +kernel), by decide +kernel⟩
theorem d_X2_isLetter_0 : q_dec prog_4_method_5_code 0 (.iload_n 0) 1 1 := ⟨by decide +kernel, rfl⟩
theorem d_X2_isLetter_1 : q_dec prog_4_method_5_code 1 (.bipush 65) 2 3 := ⟨by decide +kernel, rfl⟩
theorem d_X2_isLetter_3 : q_dec prog_4_method_5_code 3 (.bipush 70) 2 5 := ⟨by decide +kernel, rfl⟩
theorem d_X2_isLetter_5 : q_dec prog_4_method_5_code 5 (.invokestatic 29) 3 8 := ⟨by decide +kernel, rfl⟩
theorem d_X2_isLetter_8 : q_dec prog_4_method_5_code 8 (.ireturn) 1 9 := ⟨by decide +kernel, rfl⟩
theorem m_X2_isLetter : q_wS y_X2_isLetter prog_4_method_5_code 1 (some .boolean) 1 := ⟨q_mem 359 (by decide +kernel) (by decide +kernel), q_mem 358 (by decide +kernel) (by decide +kernel), q_mem 2 (by decide +kernel) (by decide +kernel), by decide +kernel⟩
theorem d_X2_isAlone_0 : q_dec prog_4_method_6_code 0 (.iload_n 0) 1 1 := ⟨by decide +kernel, rfl⟩
theorem d_X2_isAlone_1 : q_dec prog_4_method_6_code 1 (.bipush 126) 2 3 := ⟨by decide +kernel, rfl⟩
theorem d_X2_isAlone_3 : q_dec prog_4_method_6_code 3 (.if_icmp .eq 9) 3 6 := ⟨by decide +kernel, rfl⟩
theorem d_X2_isAlone_6 : q_dec prog_4_method_6_code 6 (.iload_n 0) 1 7 := ⟨by decide +kernel, rfl⟩
theorem d_X2_isAlone_7 : q_dec prog_4_method_6_code 7 (.bipush 46) 2 9 := ⟨by decide +kernel, rfl⟩
theorem d_X2_isAlone_9 : q_dec prog_4_method_6_code 9 (.if_icmp .ne 7) 3 12 := ⟨by decide +kernel, rfl⟩
theorem d_X2_isAlone_12 : q_dec prog_4_method_6_code 12 (.iconst 1) 1 13 := ⟨by decide +kernel, rfl⟩
theorem d_X2_isAlone_13 : q_dec prog_4_method_6_code 13 (.goto 4) 3 16 := ⟨by decide +kernel, rfl⟩
theorem d_X2_isAlone_16 : q_dec prog_4_method_6_code 16 (.iconst 0) 1 17 := ⟨by decide +kernel, rfl⟩
theorem d_X2_isAlone_17 : q_dec prog_4_method_6_code 17 (.ireturn) 1 18 := ⟨by decide +kernel, rfl⟩
theorem m_X2_isAlone : q_wS y_X2_isAlone prog_4_method_6_code 1 (some .boolean) 1 := ⟨q_mem 363 (by decide +kernel) (by decide +kernel), q_mem 362 (by decide +kernel) (by decide +kernel), q_mem 2 (by decide +kernel) (by decide +kernel), by decide +kernel⟩
theorem d_X2_firstFault_0 : q_dec prog_4_method_4_code 0 (.iconst 0) 1 1 := ⟨by decide +kernel, rfl⟩
theorem d_X2_firstFault_1 : q_dec prog_4_method_4_code 1 (.istore_n 1) 1 2 := ⟨by decide +kernel, rfl⟩
theorem d_X2_firstFault_2 : q_dec prog_4_method_4_code 2 (.iconst 0) 1 3 := ⟨by decide +kernel, rfl⟩
theorem d_X2_firstFault_3 : q_dec prog_4_method_4_code 3 (.istore_n 2) 1 4 := ⟨by decide +kernel, rfl⟩
theorem d_X2_firstFault_4 : q_dec prog_4_method_4_code 4 (.iload_n 2) 1 5 := ⟨by decide +kernel, rfl⟩
theorem d_X2_firstFault_5 : q_dec prog_4_method_4_code 5 (.aload_n 0) 1 6 := ⟨by decide +kernel, rfl⟩
theorem d_X2_firstFault_6 : q_dec prog_4_method_4_code 6 (.getfield 15) 3 9 := ⟨by decide +kernel, rfl⟩
theorem d_X2_firstFault_9 : q_dec prog_4_method_4_code 9 (.if_icmp .ge 77) 3 12 := ⟨by decide +kernel, rfl⟩
theorem d_X2_firstFault_12 : q_dec prog_4_method_4_code 12 (.iload_n 2) 1 13 := ⟨by decide +kernel, rfl⟩
theorem d_X2_firstFault_13 : q_dec prog_4_method_4_code 13 (.bipush 60) 2 15 := ⟨by decide +kernel, rfl⟩
theorem d_X2_firstFault_15 : q_dec prog_4_method_4_code 15 (.if_icmp .ge 71) 3 18 := ⟨by decide +kernel, rfl⟩
theorem d_X2_firstFault_18 : q_dec prog_4_method_4_code 18 (.iload_n 1) 1 19 := ⟨by decide +kernel, rfl⟩
theorem d_X2_firstFault_19 : q_dec prog_4_method_4_code 19 (.ifCond .eq 15) 3 22 := ⟨by decide +kernel, rfl⟩
theorem d_X2_firstFault_22 : q_dec prog_4_method_4_code 22 (.aload_n 0) 1 23 := ⟨by decide +kernel, rfl⟩
theorem d_X2_firstFault_23 : q_dec prog_4_method_4_code 23 (.getfield 11) 3 26 := ⟨by decide +kernel, rfl⟩
theorem d_X2_firstFault_26 : q_dec prog_4_method_4_code 26 (.iload_n 2) 1 27 := ⟨by decide +kernel, rfl⟩
theorem d_X2_firstFault_27 : q_dec prog_4_method_4_code 27 (.caload) 1 28 := ⟨by decide +kernel, rfl⟩
theorem d_X2_firstFault_28 : q_dec prog_4_method_4_code 28 (.invokestatic 19) 3 31 := ⟨by decide +kernel, rfl⟩
theorem d_X2_firstFault_31 : q_dec prog_4_method_4_code 31 (.goto 32) 3 34 := ⟨by decide +kernel, rfl⟩
theorem d_X2_firstFault_34 : q_dec prog_4_method_4_code 34 (.aload_n 0) 1 35 := ⟨by decide +kernel, rfl⟩
theorem d_X2_firstFault_35 : q_dec prog_4_method_4_code 35 (.getfield 11) 3 38 := ⟨by decide +kernel, rfl⟩
theorem d_X2_firstFault_38 : q_dec prog_4_method_4_code 38 (.iload_n 2) 1 39 := ⟨by decide +kernel, rfl⟩
theorem d_X2_firstFault_39 : q_dec prog_4_method_4_code 39 (.caload) 1 40 := ⟨by decide +kernel, rfl⟩
theorem d_X2_firstFault_40 : q_dec prog_4_method_4_code 40 (.invokestatic 23) 3 43 := ⟨by decide +kernel, rfl⟩
theorem d_X2_firstFault_43 : q_dec prog_4_method_4_code 43 (.ifCond .ne 15) 3 46 := ⟨by decide +kernel, rfl⟩
theorem d_X2_firstFault_46 : q_dec prog_4_method_4_code 46 (.aload_n 0) 1 47 := ⟨by decide +kernel, rfl⟩
theorem d_X2_firstFault_47 : q_dec prog_4_method_4_code 47 (.getfield 11) 3 50 := ⟨by decide +kernel, rfl⟩
theorem d_X2_firstFault_50 : q_dec prog_4_method_4_code 50 (.iload_n 2) 1 51 := ⟨by decide +kernel, rfl⟩
theorem d_X2_firstFault_51 : q_dec prog_4_method_4_code 51 (.caload) 1 52 := ⟨by decide +kernel, rfl⟩
theorem d_X2_firstFault_52 : q_dec prog_4_method_4_code 52 (.invokestatic 26) 3 55 := ⟨by decide +kernel, rfl⟩
theorem d_X2_firstFault_55 : q_dec prog_4_method_4_code 55 (.ifCond .eq 7) 3 58 := ⟨by decide +kernel, rfl⟩
theorem d_X2_firstFault_58 : q_dec prog_4_method_4_code 58 (.iconst 1) 1 59 := ⟨by decide +kernel, rfl⟩
theorem d_X2_firstFault_59 : q_dec prog_4_method_4_code 59 (.goto 4) 3 62 := ⟨by decide +kernel, rfl⟩
theorem d_X2_firstFault_62 : q_dec prog_4_method_4_code 62 (.iconst 0) 1 63 := ⟨by decide +kernel, rfl⟩
theorem d_X2_firstFault_63 : q_dec prog_4_method_4_code 63 (.istore_n 3) 1 64 := ⟨by decide +kernel, rfl⟩
theorem d_X2_firstFault_64 : q_dec prog_4_method_4_code 64 (.iload_n 3) 1 65 := ⟨by decide +kernel, rfl⟩
theorem d_X2_firstFault_65 : q_dec prog_4_method_4_code 65 (.ifCond .ne 5) 3 68 := ⟨by decide +kernel, rfl⟩
theorem d_X2_firstFault_68 : q_dec prog_4_method_4_code 68 (.iload_n 2) 1 69 := ⟨by decide +kernel, rfl⟩
theorem d_X2_firstFault_69 : q_dec prog_4_method_4_code 69 (.ireturn) 1 70 := ⟨by decide +kernel, rfl⟩
theorem d_X2_firstFault_70 : q_dec prog_4_method_4_code 70 (.aload_n 0) 1 71 := ⟨by decide +kernel, rfl⟩
theorem d_X2_firstFault_71 : q_dec prog_4_method_4_code 71 (.getfield 11) 3 74 := ⟨by decide +kernel, rfl⟩
theorem d_X2_firstFault_74 : q_dec prog_4_method_4_code 74 (.iload_n 2) 1 75 := ⟨by decide +kernel, rfl⟩
theorem d_X2_firstFault_75 : q_dec prog_4_method_4_code 75 (.caload) 1 76 := ⟨by decide +kernel, rfl⟩
theorem d_X2_firstFault_76 : q_dec prog_4_method_4_code 76 (.invokestatic 23) 3 79 := ⟨by decide +kernel, rfl⟩
theorem d_X2_firstFault_79 : q_dec prog_4_method_4_code 79 (.istore_n 1) 1 80 := ⟨by decide +kernel, rfl⟩
theorem d_X2_firstFault_80 : q_dec prog_4_method_4_code 80 (.iinc 2 1) 3 83 := ⟨by decide +kernel, rfl⟩
theorem d_X2_firstFault_83 : q_dec prog_4_method_4_code 83 (.goto (-79)) 3 86 := ⟨by decide +kernel, rfl⟩
theorem d_X2_firstFault_86 : q_dec prog_4_method_4_code 86 (.iload_n 1) 1 87 := ⟨by decide +kernel, rfl⟩
theorem d_X2_firstFault_87 : q_dec prog_4_method_4_code 87 (.ifCond .eq 10) 3 90 := ⟨by decide +kernel, rfl⟩
theorem d_X2_firstFault_90 : q_dec prog_4_method_4_code 90 (.aload_n 0) 1 91 := ⟨by decide +kernel, rfl⟩
theorem d_X2_firstFault_91 : q_dec prog_4_method_4_code 91 (.getfield 15) 3 94 := ⟨by decide +kernel, rfl⟩
theorem d_X2_firstFault_94 : q_dec prog_4_method_4_code 94 (.goto 5) 3 97 := ⟨by decide +kernel, rfl⟩
theorem d_X2_firstFault_97 : q_dec prog_4_method_4_code 97 (.bipush (-6)) 2 99 := ⟨by decide +kernel, rfl⟩
theorem d_X2_firstFault_99 : q_dec prog_4_method_4_code 99 (.ireturn) 1 100 := ⟨by decide +kernel, rfl⟩
theorem m_X2_firstFault : q_wV y_X2_firstFault prog_4_method_4_code 4 (some .int) 0 := ⟨q_mem 353 (by decide +kernel) (by decide +kernel), q_mem 351 (by decide +kernel) (by decide +kernel), q_mem 352 (by decide +kernel) (by decide +kernel), q_mem 2 (by decide +kernel) (by decide +kernel), by decide +kernel⟩
theorem d_X8_copy_0 : q_dec prog_10_method_2_code 0 (.aload_n 0) 1 1 := ⟨by decide +kernel, rfl⟩
theorem d_X8_copy_1 : q_dec prog_10_method_2_code 1 (.aload_n 1) 1 2 := ⟨by decide +kernel, rfl⟩
theorem d_X8_copy_2 : q_dec prog_10_method_2_code 2 (.getfield 15) 3 5 := ⟨by decide +kernel, rfl⟩
theorem d_X8_copy_5 : q_dec prog_10_method_2_code 5 (.putfield 15) 3 8 := ⟨by decide +kernel, rfl⟩
theorem d_X8_copy_8 : q_dec prog_10_method_2_code 8 (.aload_n 0) 1 9 := ⟨by decide +kernel, rfl⟩
theorem d_X8_copy_9 : q_dec prog_10_method_2_code 9 (.aload_n 1) 1 10 := ⟨by decide +kernel, rfl⟩
theorem d_X8_copy_10 : q_dec prog_10_method_2_code 10 (.getfield 19) 3 13 := ⟨by decide +kernel, rfl⟩
theorem d_X8_copy_13 : q_dec prog_10_method_2_code 13 (.putfield 19) 3 16 := ⟨by decide +kernel, rfl⟩
theorem d_X8_copy_16 : q_dec prog_10_method_2_code 16 (.aload_n 0) 1 17 := ⟨by decide +kernel, rfl⟩
theorem d_X8_copy_17 : q_dec prog_10_method_2_code 17 (.aload_n 1) 1 18 := ⟨by decide +kernel, rfl⟩
theorem d_X8_copy_18 : q_dec prog_10_method_2_code 18 (.getfield 23) 3 21 := ⟨by decide +kernel, rfl⟩
theorem d_X8_copy_21 : q_dec prog_10_method_2_code 21 (.putfield 23) 3 24 := ⟨by decide +kernel, rfl⟩
theorem d_X8_copy_24 : q_dec prog_10_method_2_code 24 (.aload_n 0) 1 25 := ⟨by decide +kernel, rfl⟩
theorem d_X8_copy_25 : q_dec prog_10_method_2_code 25 (.aload_n 1) 1 26 := ⟨by decide +kernel, rfl⟩
theorem d_X8_copy_26 : q_dec prog_10_method_2_code 26 (.getfield 26) 3 29 := ⟨by decide +kernel, rfl⟩
theorem d_X8_copy_29 : q_dec prog_10_method_2_code 29 (.putfield 26) 3 32 := ⟨by decide +kernel, rfl⟩
theorem d_X8_copy_32 : q_dec prog_10_method_2_code 32 (.aload_n 0) 1 33 := ⟨by decide +kernel, rfl⟩
theorem d_X8_copy_33 : q_dec prog_10_method_2_code 33 (.aload_n 1) 1 34 := ⟨by decide +kernel, rfl⟩
theorem d_X8_copy_34 : q_dec prog_10_method_2_code 34 (.getfield 29) 3 37 := ⟨by decide +kernel, rfl⟩
theorem d_X8_copy_37 : q_dec prog_10_method_2_code 37 (.putfield 29) 3 40 := ⟨by decide +kernel, rfl⟩
theorem d_X8_copy_40 : q_dec prog_10_method_2_code 40 (.aload_n 1) 1 41 := ⟨by decide +kernel, rfl⟩
theorem d_X8_copy_41 : q_dec prog_10_method_2_code 41 (.getfield 9) 3 44 := ⟨by decide +kernel, rfl⟩
theorem d_X8_copy_44 : q_dec prog_10_method_2_code 44 (.iconst 0) 1 45 := ⟨by decide +kernel, rfl⟩
theorem d_X8_copy_45 : q_dec prog_10_method_2_code 45 (.aload_n 0) 1 46 := ⟨by decide +kernel, rfl⟩
theorem d_X8_copy_46 : q_dec prog_10_method_2_code 46 (.getfield 9) 3 49 := ⟨by decide +kernel, rfl⟩
theorem d_X8_copy_49 : q_dec prog_10_method_2_code 49 (.iconst 0) 1 50 := ⟨by decide +kernel, rfl⟩
theorem d_X8_copy_50 : q_dec prog_10_method_2_code 50 (.bipush 6) 2 52 := ⟨by decide +kernel, rfl⟩
theorem d_X8_copy_52 : q_dec prog_10_method_2_code 52 (.invokestatic 32) 3 55 := ⟨by decide +kernel, rfl⟩
theorem d_X8_copy_55 : q_dec prog_10_method_2_code 55 (.return_) 1 56 := ⟨by decide +kernel, rfl⟩
theorem m_X8_copy : q_wV y_X8_copy prog_10_method_2_code 2 none 1 := ⟨q_mem 379 (by decide +kernel) (by decide +kernel), q_mem 377 (by decide +kernel) (by decide +kernel), q_mem 378 (by decide +kernel) (by decide +kernel), q_mem 5 (by decide +kernel) (by decide +kernel), by decide +kernel⟩
theorem d_X8_otherBehindStep_0 : q_dec prog_10_method_6_code 0 (.aload_n 0) 1 1 := ⟨by decide +kernel, rfl⟩
theorem d_X8_otherBehindStep_1 : q_dec prog_10_method_6_code 1 (.getfield 19) 3 4 := ⟨by decide +kernel, rfl⟩
theorem d_X8_otherBehindStep_4 : q_dec prog_10_method_6_code 4 (.ifCond .ne 7) 3 7 := ⟨by decide +kernel, rfl⟩
theorem d_X8_otherBehindStep_7 : q_dec prog_10_method_6_code 7 (.iload_n 1) 1 8 := ⟨by decide +kernel, rfl⟩
theorem d_X8_otherBehindStep_8 : q_dec prog_10_method_6_code 8 (.goto 14) 3 11 := ⟨by decide +kernel, rfl⟩
theorem d_X8_otherBehindStep_11 : q_dec prog_10_method_6_code 11 (.aload_n 0) 1 12 := ⟨by decide +kernel, rfl⟩
theorem d_X8_otherBehindStep_12 : q_dec prog_10_method_6_code 12 (.getfield 9) 3 15 := ⟨by decide +kernel, rfl⟩
theorem d_X8_otherBehindStep_15 : q_dec prog_10_method_6_code 15 (.aload_n 0) 1 16 := ⟨by decide +kernel, rfl⟩
theorem d_X8_otherBehindStep_16 : q_dec prog_10_method_6_code 16 (.getfield 19) 3 19 := ⟨by decide +kernel, rfl⟩
theorem d_X8_otherBehindStep_19 : q_dec prog_10_method_6_code 19 (.iconst 1) 1 20 := ⟨by decide +kernel, rfl⟩
theorem d_X8_otherBehindStep_20 : q_dec prog_10_method_6_code 20 (.isub) 1 21 := ⟨by decide +kernel, rfl⟩
theorem d_X8_otherBehindStep_21 : q_dec prog_10_method_6_code 21 (.iaload) 1 22 := ⟨by decide +kernel, rfl⟩
theorem d_X8_otherBehindStep_22 : q_dec prog_10_method_6_code 22 (.ireturn) 1 23 := ⟨by decide +kernel, rfl⟩
theorem m_X8_otherBehindStep : q_wV y_X8_otherBehindStep prog_10_method_6_code 2 (some .int) 1 := ⟨q_mem 415 (by decide +kernel) (by decide +kernel), q_mem 413 (by decide +kernel) (by decide +kernel), q_mem 414 (by decide +kernel) (by decide +kernel), q_mem 5 (by decide +kernel) (by decide +kernel), by decide +kernel⟩
theorem d_X8_beginAt_0 : q_dec prog_10_method_4_code 0 (.aload_n 0) 1 1 := ⟨by decide +kernel, rfl⟩
theorem d_X8_beginAt_1 : q_dec prog_10_method_4_code 1 (.iconst 0) 1 2 := ⟨by decide +kernel, rfl⟩
theorem d_X8_beginAt_2 : q_dec prog_10_method_4_code 2 (.putfield 23) 3 5 := ⟨by decide +kernel, rfl⟩
theorem d_X8_beginAt_5 : q_dec prog_10_method_4_code 5 (.aload_n 0) 1 6 := ⟨by decide +kernel, rfl⟩
theorem d_X8_beginAt_6 : q_dec prog_10_method_4_code 6 (.getfield 9) 3 9 := ⟨by decide +kernel, rfl⟩
theorem d_X8_beginAt_9 : q_dec prog_10_method_4_code 9 (.iload_n 1) 1 10 := ⟨by decide +kernel, rfl⟩
theorem d_X8_beginAt_10 : q_dec prog_10_method_4_code 10 (.invokestatic 42) 3 13 := ⟨by decide +kernel, rfl⟩
theorem d_X8_beginAt_13 : q_dec prog_10_method_4_code 13 (.return_) 1 14 := ⟨by decide +kernel, rfl⟩
theorem m_X8_beginAt : q_wV y_X8_beginAt prog_10_method_4_code 2 none 1 := ⟨q_mem 307 (by decide +kernel) (by decide +kernel), q_mem 305 (by decide +kernel) (by decide +kernel), q_mem 306 (by decide +kernel) (by decide +kernel), q_mem 5 (by decide +kernel) (by decide +kernel), by decide +kernel⟩
theorem d_X8_arrive_0 : q_dec prog_10_method_3_code 0 (.aload_n 0) 1 1 := ⟨by decide +kernel, rfl⟩
theorem d_X8_arrive_1 : q_dec prog_10_method_3_code 1 (.iconst 1) 1 2 := ⟨by decide +kernel, rfl⟩
theorem d_X8_arrive_2 : q_dec prog_10_method_3_code 2 (.putfield 15) 3 5 := ⟨by decide +kernel, rfl⟩
theorem d_X8_arrive_5 : q_dec prog_10_method_3_code 5 (.aload_n 0) 1 6 := ⟨by decide +kernel, rfl⟩
theorem d_X8_arrive_6 : q_dec prog_10_method_3_code 6 (.iload_n 2) 1 7 := ⟨by decide +kernel, rfl⟩
theorem d_X8_arrive_7 : q_dec prog_10_method_3_code 7 (.putfield 19) 3 10 := ⟨by decide +kernel, rfl⟩
theorem d_X8_arrive_10 : q_dec prog_10_method_3_code 10 (.aload_n 0) 1 11 := ⟨by decide +kernel, rfl⟩
theorem d_X8_arrive_11 : q_dec prog_10_method_3_code 11 (.iload_n 1) 1 12 := ⟨by decide +kernel, rfl⟩
theorem d_X8_arrive_12 : q_dec prog_10_method_3_code 12 (.invokevirtual 38) 3 15 := ⟨by decide +kernel, rfl⟩
theorem d_X8_arrive_15 : q_dec prog_10_method_3_code 15 (.return_) 1 16 := ⟨by decide +kernel, rfl⟩
theorem m_X8_arrive : q_wV y_X8_arrive prog_10_method_3_code 3 none 2 := ⟨q_mem 303 (by decide +kernel) (by decide +kernel), q_mem 301 (by decide +kernel) (by decide +kernel), q_mem 302 (by decide +kernel) (by decide +kernel), q_mem 5 (by decide +kernel) (by decide +kernel), by decide +kernel⟩
theorem d_X8_stray_0 : q_dec prog_10_method_8_code 0 (.aload_n 0) 1 1 := ⟨by decide +kernel, rfl⟩
theorem d_X8_stray_1 : q_dec prog_10_method_8_code 1 (.aload_n 0) 1 2 := ⟨by decide +kernel, rfl⟩
theorem d_X8_stray_2 : q_dec prog_10_method_8_code 2 (.getfield 26) 3 5 := ⟨by decide +kernel, rfl⟩
theorem d_X8_stray_5 : q_dec prog_10_method_8_code 5 (.aload_n 0) 1 6 := ⟨by decide +kernel, rfl⟩
theorem d_X8_stray_6 : q_dec prog_10_method_8_code 6 (.getfield 29) 3 9 := ⟨by decide +kernel, rfl⟩
theorem d_X8_stray_9 : q_dec prog_10_method_8_code 9 (.invokestatic 48) 3 12 := ⟨by decide +kernel, rfl⟩
theorem d_X8_stray_12 : q_dec prog_10_method_8_code 12 (.putfield 29) 3 15 := ⟨by decide +kernel, rfl⟩
theorem d_X8_stray_15 : q_dec prog_10_method_8_code 15 (.aload_n 0) 1 16 := ⟨by decide +kernel, rfl⟩
theorem d_X8_stray_16 : q_dec prog_10_method_8_code 16 (.dup) 1 17 := ⟨by decide +kernel, rfl⟩
theorem d_X8_stray_17 : q_dec prog_10_method_8_code 17 (.getfield 26) 3 20 := ⟨by decide +kernel, rfl⟩
theorem d_X8_stray_20 : q_dec prog_10_method_8_code 20 (.aload_n 0) 1 21 := ⟨by decide +kernel, rfl⟩
theorem d_X8_stray_21 : q_dec prog_10_method_8_code 21 (.getfield 29) 3 24 := ⟨by decide +kernel, rfl⟩
theorem d_X8_stray_24 : q_dec prog_10_method_8_code 24 (.ifCond .eq 7) 3 27 := ⟨by decide +kernel, rfl⟩
theorem d_X8_stray_27 : q_dec prog_10_method_8_code 27 (.iconst 1) 1 28 := ⟨by decide +kernel, rfl⟩
theorem d_X8_stray_28 : q_dec prog_10_method_8_code 28 (.goto 4) 3 31 := ⟨by decide +kernel, rfl⟩
theorem d_X8_stray_31 : q_dec prog_10_method_8_code 31 (.iconst (-1)) 1 32 := ⟨by decide +kernel, rfl⟩
theorem d_X8_stray_32 : q_dec prog_10_method_8_code 32 (.iadd) 1 33 := ⟨by decide +kernel, rfl⟩
theorem d_X8_stray_33 : q_dec prog_10_method_8_code 33 (.putfield 26) 3 36 := ⟨by decide +kernel, rfl⟩
theorem d_X8_stray_36 : q_dec prog_10_method_8_code 36 (.return_) 1 37 := ⟨by decide +kernel, rfl⟩
theorem m_X8_stray : q_wV y_X8_stray prog_10_method_8_code 1 none 0 := ⟨q_mem 447 (by decide +kernel) (by decide +kernel), q_mem 445 (by decide +kernel) (by decide +kernel), q_mem 446 (by decide +kernel) (by decide +kernel), q_mem 5 (by decide +kernel) (by decide +kernel), by decide +kernel⟩
theorem d_X8_part_0 : q_dec prog_10_method_7_code 0 (.aload_n 0) 1 1 := ⟨by decide +kernel, rfl⟩
theorem d_X8_part_1 : q_dec prog_10_method_7_code 1 (.iconst 1) 1 2 := ⟨by decide +kernel, rfl⟩
theorem d_X8_part_2 : q_dec prog_10_method_7_code 2 (.putfield 23) 3 5 := ⟨by decide +kernel, rfl⟩
theorem d_X8_part_5 : q_dec prog_10_method_7_code 5 (.aload_n 0) 1 6 := ⟨by decide +kernel, rfl⟩
theorem d_X8_part_6 : q_dec prog_10_method_7_code 6 (.iload_n 1) 1 7 := ⟨by decide +kernel, rfl⟩
theorem d_X8_part_7 : q_dec prog_10_method_7_code 7 (.putfield 26) 3 10 := ⟨by decide +kernel, rfl⟩
theorem d_X8_part_10 : q_dec prog_10_method_7_code 10 (.aload_n 0) 1 11 := ⟨by decide +kernel, rfl⟩
theorem d_X8_part_11 : q_dec prog_10_method_7_code 11 (.iconst 1) 1 12 := ⟨by decide +kernel, rfl⟩
theorem d_X8_part_12 : q_dec prog_10_method_7_code 12 (.putfield 29) 3 15 := ⟨by decide +kernel, rfl⟩
theorem d_X8_part_15 : q_dec prog_10_method_7_code 15 (.return_) 1 16 := ⟨by decide +kernel, rfl⟩
theorem m_X8_part : q_wV y_X8_part prog_10_method_7_code 2 none 1 := ⟨q_mem 458 (by decide +kernel) (by decide +kernel), q_mem 456 (by decide +kernel) (by decide +kernel), q_mem 457 (by decide +kernel) (by decide +kernel), q_mem 5 (by decide +kernel) (by decide +kernel), by decide +kernel⟩
theorem d_X8_stepTo_0 : q_dec prog_10_method_5_code 0 (.iconst 5) 1 1 := ⟨by decide +kernel, rfl⟩
theorem d_X8_stepTo_1 : q_dec prog_10_method_5_code 1 (.istore_n 2) 1 2 := ⟨by decide +kernel, rfl⟩
theorem d_X8_stepTo_2 : q_dec prog_10_method_5_code 2 (.iload_n 2) 1 3 := ⟨by decide +kernel, rfl⟩
theorem d_X8_stepTo_3 : q_dec prog_10_method_5_code 3 (.ifCond .le 23) 3 6 := ⟨by decide +kernel, rfl⟩
theorem d_X8_stepTo_6 : q_dec prog_10_method_5_code 6 (.aload_n 0) 1 7 := ⟨by decide +kernel, rfl⟩
theorem d_X8_stepTo_7 : q_dec prog_10_method_5_code 7 (.getfield 9) 3 10 := ⟨by decide +kernel, rfl⟩
theorem d_X8_stepTo_10 : q_dec prog_10_method_5_code 10 (.iload_n 2) 1 11 := ⟨by decide +kernel, rfl⟩
theorem d_X8_stepTo_11 : q_dec prog_10_method_5_code 11 (.aload_n 0) 1 12 := ⟨by decide +kernel, rfl⟩
theorem d_X8_stepTo_12 : q_dec prog_10_method_5_code 12 (.getfield 9) 3 15 := ⟨by decide +kernel, rfl⟩
theorem d_X8_stepTo_15 : q_dec prog_10_method_5_code 15 (.iload_n 2) 1 16 := ⟨by decide +kernel, rfl⟩
theorem d_X8_stepTo_16 : q_dec prog_10_method_5_code 16 (.iconst 1) 1 17 := ⟨by decide +kernel, rfl⟩
theorem d_X8_stepTo_17 : q_dec prog_10_method_5_code 17 (.isub) 1 18 := ⟨by decide +kernel, rfl⟩
theorem d_X8_stepTo_18 : q_dec prog_10_method_5_code 18 (.iaload) 1 19 := ⟨by decide +kernel, rfl⟩
theorem d_X8_stepTo_19 : q_dec prog_10_method_5_code 19 (.iastore) 1 20 := ⟨by decide +kernel, rfl⟩
theorem d_X8_stepTo_20 : q_dec prog_10_method_5_code 20 (.iinc 2 (-1)) 3 23 := ⟨by decide +kernel, rfl⟩
theorem d_X8_stepTo_23 : q_dec prog_10_method_5_code 23 (.goto (-21)) 3 26 := ⟨by decide +kernel, rfl⟩
theorem d_X8_stepTo_26 : q_dec prog_10_method_5_code 26 (.aload_n 0) 1 27 := ⟨by decide +kernel, rfl⟩
theorem d_X8_stepTo_27 : q_dec prog_10_method_5_code 27 (.getfield 9) 3 30 := ⟨by decide +kernel, rfl⟩
theorem d_X8_stepTo_30 : q_dec prog_10_method_5_code 30 (.iconst 0) 1 31 := ⟨by decide +kernel, rfl⟩
theorem d_X8_stepTo_31 : q_dec prog_10_method_5_code 31 (.iload_n 1) 1 32 := ⟨by decide +kernel, rfl⟩
theorem d_X8_stepTo_32 : q_dec prog_10_method_5_code 32 (.iastore) 1 33 := ⟨by decide +kernel, rfl⟩
theorem d_X8_stepTo_33 : q_dec prog_10_method_5_code 33 (.return_) 1 34 := ⟨by decide +kernel, rfl⟩
theorem m_X8_stepTo : q_wV y_X8_stepTo prog_10_method_5_code 3 none 1 := ⟨q_mem 462 (by decide +kernel) (by decide +kernel), q_mem 460 (by decide +kernel) (by decide +kernel), q_mem 461 (by decide +kernel) (by decide +kernel), q_mem 5 (by decide +kernel) (by decide +kernel), by decide +kernel⟩
theorem d_X5_copy_0 : q_dec prog_7_method_3_code 0 (.aload_n 0) 1 1 := ⟨by decide +kernel, rfl⟩
theorem d_X5_copy_1 : q_dec prog_7_method_3_code 1 (.aload_n 1) 1 2 := ⟨by decide +kernel, rfl⟩
theorem d_X5_copy_2 : q_dec prog_7_method_3_code 2 (.getfield 16) 3 5 := ⟨by decide +kernel, rfl⟩
theorem d_X5_copy_5 : q_dec prog_7_method_3_code 5 (.putfield 16) 3 8 := ⟨by decide +kernel, rfl⟩
theorem d_X5_copy_8 : q_dec prog_7_method_3_code 8 (.aload_n 1) 1 9 := ⟨by decide +kernel, rfl⟩
theorem d_X5_copy_9 : q_dec prog_7_method_3_code 9 (.getfield 9) 3 12 := ⟨by decide +kernel, rfl⟩
theorem d_X5_copy_12 : q_dec prog_7_method_3_code 12 (.iconst 0) 1 13 := ⟨by decide +kernel, rfl⟩
theorem d_X5_copy_13 : q_dec prog_7_method_3_code 13 (.aload_n 0) 1 14 := ⟨by decide +kernel, rfl⟩
theorem d_X5_copy_14 : q_dec prog_7_method_3_code 14 (.getfield 9) 3 17 := ⟨by decide +kernel, rfl⟩
theorem d_X5_copy_17 : q_dec prog_7_method_3_code 17 (.iconst 0) 1 18 := ⟨by decide +kernel, rfl⟩
theorem d_X5_copy_18 : q_dec prog_7_method_3_code 18 (.bipush 8) 2 20 := ⟨by decide +kernel, rfl⟩
theorem d_X5_copy_20 : q_dec prog_7_method_3_code 20 (.invokestatic 20) 3 23 := ⟨by decide +kernel, rfl⟩
theorem d_X5_copy_23 : q_dec prog_7_method_3_code 23 (.aload_n 1) 1 24 := ⟨by decide +kernel, rfl⟩
theorem d_X5_copy_24 : q_dec prog_7_method_3_code 24 (.getfield 13) 3 27 := ⟨by decide +kernel, rfl⟩
theorem d_X5_copy_27 : q_dec prog_7_method_3_code 27 (.iconst 0) 1 28 := ⟨by decide +kernel, rfl⟩
theorem d_X5_copy_28 : q_dec prog_7_method_3_code 28 (.aload_n 0) 1 29 := ⟨by decide +kernel, rfl⟩
theorem d_X5_copy_29 : q_dec prog_7_method_3_code 29 (.getfield 13) 3 32 := ⟨by decide +kernel, rfl⟩
theorem d_X5_copy_32 : q_dec prog_7_method_3_code 32 (.iconst 0) 1 33 := ⟨by decide +kernel, rfl⟩
theorem d_X5_copy_33 : q_dec prog_7_method_3_code 33 (.bipush 8) 2 35 := ⟨by decide +kernel, rfl⟩
theorem d_X5_copy_35 : q_dec prog_7_method_3_code 35 (.invokestatic 20) 3 38 := ⟨by decide +kernel, rfl⟩
theorem d_X5_copy_38 : q_dec prog_7_method_3_code 38 (.return_) 1 39 := ⟨by decide +kernel, rfl⟩
theorem m_X5_copy : q_wV y_X5_copy prog_7_method_3_code 2 none 1 := ⟨q_mem 386 (by decide +kernel) (by decide +kernel), q_mem 384 (by decide +kernel) (by decide +kernel), q_mem 385 (by decide +kernel) (by decide +kernel), q_mem 4 (by decide +kernel) (by decide +kernel), by decide +kernel⟩
theorem d_X5_add_0 : q_dec prog_7_method_2_code 0 (.aload_n 0) 1 1 := ⟨by decide +kernel, rfl⟩
theorem d_X5_add_1 : q_dec prog_7_method_2_code 1 (.getfield 16) 3 4 := ⟨by decide +kernel, rfl⟩
theorem d_X5_add_4 : q_dec prog_7_method_2_code 4 (.bipush 8) 2 6 := ⟨by decide +kernel, rfl⟩
theorem d_X5_add_6 : q_dec prog_7_method_2_code 6 (.if_icmp .lt 5) 3 9 := ⟨by decide +kernel, rfl⟩
theorem d_X5_add_9 : q_dec prog_7_method_2_code 9 (.iconst 0) 1 10 := ⟨by decide +kernel, rfl⟩
theorem d_X5_add_10 : q_dec prog_7_method_2_code 10 (.ireturn) 1 11 := ⟨by decide +kernel, rfl⟩
theorem d_X5_add_11 : q_dec prog_7_method_2_code 11 (.aload_n 0) 1 12 := ⟨by decide +kernel, rfl⟩
theorem d_X5_add_12 : q_dec prog_7_method_2_code 12 (.getfield 9) 3 15 := ⟨by decide +kernel, rfl⟩
theorem d_X5_add_15 : q_dec prog_7_method_2_code 15 (.aload_n 0) 1 16 := ⟨by decide +kernel, rfl⟩
theorem d_X5_add_16 : q_dec prog_7_method_2_code 16 (.getfield 16) 3 19 := ⟨by decide +kernel, rfl⟩
theorem d_X5_add_19 : q_dec prog_7_method_2_code 19 (.iload_n 1) 1 20 := ⟨by decide +kernel, rfl⟩
theorem d_X5_add_20 : q_dec prog_7_method_2_code 20 (.iastore) 1 21 := ⟨by decide +kernel, rfl⟩
theorem d_X5_add_21 : q_dec prog_7_method_2_code 21 (.aload_n 0) 1 22 := ⟨by decide +kernel, rfl⟩
theorem d_X5_add_22 : q_dec prog_7_method_2_code 22 (.getfield 13) 3 25 := ⟨by decide +kernel, rfl⟩
theorem d_X5_add_25 : q_dec prog_7_method_2_code 25 (.aload_n 0) 1 26 := ⟨by decide +kernel, rfl⟩
theorem d_X5_add_26 : q_dec prog_7_method_2_code 26 (.getfield 16) 3 29 := ⟨by decide +kernel, rfl⟩
theorem d_X5_add_29 : q_dec prog_7_method_2_code 29 (.iload_n 2) 1 30 := ⟨by decide +kernel, rfl⟩
theorem d_X5_add_30 : q_dec prog_7_method_2_code 30 (.iastore) 1 31 := ⟨by decide +kernel, rfl⟩
theorem d_X5_add_31 : q_dec prog_7_method_2_code 31 (.aload_n 0) 1 32 := ⟨by decide +kernel, rfl⟩
theorem d_X5_add_32 : q_dec prog_7_method_2_code 32 (.dup) 1 33 := ⟨by decide +kernel, rfl⟩
theorem d_X5_add_33 : q_dec prog_7_method_2_code 33 (.getfield 16) 3 36 := ⟨by decide +kernel, rfl⟩
theorem d_X5_add_36 : q_dec prog_7_method_2_code 36 (.iconst 1) 1 37 := ⟨by decide +kernel, rfl⟩
theorem d_X5_add_37 : q_dec prog_7_method_2_code 37 (.iadd) 1 38 := ⟨by decide +kernel, rfl⟩
theorem d_X5_add_38 : q_dec prog_7_method_2_code 38 (.putfield 16) 3 41 := ⟨by decide +kernel, rfl⟩
theorem d_X5_add_41 : q_dec prog_7_method_2_code 41 (.iconst 1) 1 42 := ⟨by decide +kernel, rfl⟩
theorem d_X5_add_42 : q_dec prog_7_method_2_code 42 (.ireturn) 1 43 := ⟨by decide +kernel, rfl⟩
theorem m_X5_add : q_wV y_X5_add prog_7_method_2_code 3 (some .boolean) 2 := ⟨q_mem 556 (by decide +kernel) (by decide +kernel), q_mem 554 (by decide +kernel) (by decide +kernel), q_mem 555 (by decide +kernel) (by decide +kernel), q_mem 4 (by decide +kernel) (by decide +kernel), by decide +kernel⟩
def f_X9_isWithin (a0 : Int32) (a1 : Int32) (a2 : Int32) : Int32 :=
  if a0 < a1 then (0)
  else (if a2 < a0 then (0)
    else (1))
theorem rb_X9_isWithin (a0 : Int32) (a1 : Int32) (a2 : Int32) : f_X9_isWithin a0 a1 a2 = 0 ∨ f_X9_isWithin a0 a1 a2 = 1 := by
  unfold f_X9_isWithin
  repeat' split
  all_goals simp
set_option maxRecDepth 20000 in
theorem t_X9_isWithin {Z : q_Z} {l : Launch} (a0 : Int32) (a1 : Int32) (a2 : Int32)  (σ : q_S) {r : Int32} (h : f_X9_isWithin a0 a1 a2 = r) : q_M Z l y_X9_isWithin prog_1_method_27_code 3 (some .boolean) 1 [.int a0, .int a1, .int a2] σ (some (.int r)) σ := by
  refine q_met (by decide +kernel) (Nat.le_of_ble_eq_true rfl) (fun Γ hΓ B En => ?_)
  unfold f_X9_isWithin at h
  refine g_cut (lv' := [(0, .int a0), (1, .int a1), (2, .int a2)]) rfl ?_
  refine g_iload_n B d_X9_isWithin_0 rfl rfl ?_
  refine g_iload_n B d_X9_isWithin_1 rfl rfl ?_
  refine g_icmp_lt (tgt := 14) B d_X9_isWithin_2 (by decide) h (fun h => ?_) (fun h => ?_)
  · refine g_iconst (v := 0) B d_X9_isWithin_14 (by decide) ?_
    subst h
    exact g_zret B En d_X9_isWithin_15 (by decide)
  · refine g_iload_n B d_X9_isWithin_5 rfl rfl ?_
    refine g_iload_n B d_X9_isWithin_6 rfl rfl ?_
    refine g_icmp_gt (tgt := 14) B d_X9_isWithin_7 (by decide) h (fun h => ?_) (fun h => ?_)
    · refine g_iconst (v := 0) B d_X9_isWithin_14 (by decide) ?_
      subst h
      exact g_zret B En d_X9_isWithin_15 (by decide)
    · refine g_iconst (v := 1) B d_X9_isWithin_10 (by decide) ?_
      refine g_goto (tgt := 15) B d_X9_isWithin_11 (by decide) ?_
      subst h
      exact g_zret B En d_X9_isWithin_15 (by decide)

theorem w_WaterOthers_74 : Cond.methodLink "WaterOthers" 74 y_X9_isWithin ∈ q_tbl := q_mem 289 (by decide +kernel) (by decide +kernel)
def f_X9_isCell (a0 : Int32) : Int32 :=
  (f_X9_isWithin a0 0 19)
theorem rb_X9_isCell (a0 : Int32) : f_X9_isCell a0 = 0 ∨ f_X9_isCell a0 = 1 := by
  unfold f_X9_isCell
  exact (rb_X9_isWithin a0 0 19)
set_option maxRecDepth 20000 in
theorem t_X9_isCell {Z : q_Z} {l : Launch} (a0 : Int32)  (σ : q_S) {r : Int32} (h : f_X9_isCell a0 = r) : q_M Z l y_X9_isCell prog_1_method_28_code 1 (some .boolean) 2 [.int a0] σ (some (.int r)) σ := by
  refine q_met (by decide +kernel) (Nat.le_of_ble_eq_true rfl) (fun Γ hΓ B En => ?_)
  unfold f_X9_isCell at h
  refine g_cut (lv' := [(0, .int a0)]) rfl ?_
  refine g_iload_n B d_X9_isCell_0 rfl rfl ?_
  refine g_iconst (v := 0) B d_X9_isCell_1 (by decide) ?_
  refine g_bipush (v := 19) B d_X9_isCell_2 (by decide) ?_
  refine g_callS (As := [.int a0, .int 0, .int 19]) (rest := []) B d_X9_isCell_4 (t_X9_isWithin a0 0 19 σ rfl) m_X9_isWithin w_WaterOthers_74 rfl rfl (Nat.le_of_ble_eq_true rfl) (by omega) (by decide) ?_
  subst h
  exact g_zret B En d_X9_isCell_7 (q_bn (rb_X9_isWithin a0 0 19)).1

def f_X9_isEastNext (a0 : Int32) (a1 : Int32) : Int32 :=
  if a1 = 0 then (if (0 : Int32) < a0 then (0)
    else (1))
  else (if (19 : Int32) ≤ a0 then (0)
    else (1))
theorem rb_X9_isEastNext (a0 : Int32) (a1 : Int32) : f_X9_isEastNext a0 a1 = 0 ∨ f_X9_isEastNext a0 a1 = 1 := by
  unfold f_X9_isEastNext
  repeat' split
  all_goals simp
set_option maxRecDepth 20000 in
theorem t_X9_isEastNext {Z : q_Z} {l : Launch} (a0 : Int32) (a1 : Int32)  (σ : q_S) {r : Int32} (h : f_X9_isEastNext a0 a1 = r) : q_M Z l y_X9_isEastNext prog_1_method_31_code 2 (some .boolean) 1 [.int a0, .int a1] σ (some (.int r)) σ := by
  refine q_met (by decide +kernel) (Nat.le_of_ble_eq_true rfl) (fun Γ hΓ B En => ?_)
  unfold f_X9_isEastNext at h
  refine g_cut (lv' := [(0, .int a0), (1, .int a1)]) rfl ?_
  refine g_iload_n B d_X9_isEastNext_0 rfl rfl ?_
  refine g_if_eq (tgt := 18) B d_X9_isEastNext_1 (by decide) h (fun h => ?_) (fun h => ?_)
  · refine g_iload_n B d_X9_isEastNext_18 rfl rfl ?_
    refine g_if_gt (tgt := 26) B d_X9_isEastNext_19 (by decide) h (fun h => ?_) (fun h => ?_)
    · refine g_iconst (v := 0) B d_X9_isEastNext_26 (by decide) ?_
      subst h
      exact g_zret B En d_X9_isEastNext_27 (by decide)
    · refine g_iconst (v := 1) B d_X9_isEastNext_22 (by decide) ?_
      refine g_goto (tgt := 27) B d_X9_isEastNext_23 (by decide) ?_
      subst h
      exact g_zret B En d_X9_isEastNext_27 (by decide)
  · refine g_iload_n B d_X9_isEastNext_4 rfl rfl ?_
    refine g_bipush (v := 19) B d_X9_isEastNext_5 (by decide) ?_
    refine g_icmp_ge (tgt := 14) B d_X9_isEastNext_7 (by decide) h (fun h => ?_) (fun h => ?_)
    · refine g_iconst (v := 0) B d_X9_isEastNext_14 (by decide) ?_
      refine g_goto (tgt := 27) B d_X9_isEastNext_15 (by decide) ?_
      subst h
      exact g_zret B En d_X9_isEastNext_27 (by decide)
    · refine g_iconst (v := 1) B d_X9_isEastNext_10 (by decide) ?_
      refine g_goto (tgt := 27) B d_X9_isEastNext_11 (by decide) ?_
      subst h
      exact g_zret B En d_X9_isEastNext_27 (by decide)

theorem w_WaterOthers_Pad_11 : Cond.fieldLink "WaterOthers$Pad" 11 "WaterOthers$Pad" "signs" "[C" ∈ q_tbl := q_mem 30 (by decide +kernel) (by decide +kernel)
theorem w_WaterOthers_Pad_15 : Cond.fieldLink "WaterOthers$Pad" 15 "WaterOthers$Pad" "count" "I" ∈ q_tbl := q_mem 32 (by decide +kernel) (by decide +kernel)
def f_X2_add (a0 : Int32) (σ : q_S) : Option (Int32 × q_S) :=
  if (σ.1 69 1) < 60 then (if ¬ (((σ.1 69 1) : Int32) < 0 ∨ 60 ≤ ((σ.1 69 1) : Int32).toNatClampNeg) then some (1, (q_w (q_w σ 70 ((σ.1 69 1) : Int32).toNatClampNeg (vp_nar .char (q_i2c a0))) 69 1 (((q_w σ 70 ((σ.1 69 1) : Int32).toNatClampNeg (vp_nar .char (q_i2c a0))).1 69 1) + 1))) else none)
  else (some (0, σ))
set_option maxRecDepth 20000 in
theorem t_X2_add {Z : q_Z} {l : Launch} (a0 : Int32)  (σ : q_S) {r : Int32} {σ' : q_S} (h : f_X2_add a0 σ = some (r, σ')) : q_M Z l y_X2_add prog_4_method_2_code 2 (some .boolean) 1 [.ref (Z.1 69), .int a0] σ (some (.int r)) σ' := by
  refine q_met (by decide +kernel) (Nat.le_of_ble_eq_true rfl) (fun Γ hΓ B En => ?_)
  unfold f_X2_add at h
  refine g_cut (lv' := [(0, .ref (Z.1 69)), (1, .int a0)]) rfl ?_
  refine g_aload_n B d_X2_add_0 rfl rfl ?_
  refine g_get (ci := 2) (k := 1) B d_X2_add_1 q_in2 rfl (by decide) rfl (by decide) w_WaterOthers_Pad_15 rfl rfl ?_
  refine g_bipush (v := 60) B d_X2_add_4 (by decide) ?_
  refine g_icmp_lt (tgt := 11) B d_X2_add_6 (by decide) h (fun h => ?_) (fun h => ?_)
  · refine g_aload_n B d_X2_add_11 rfl rfl ?_
    refine g_get (ci := 2) (k := 0) (v := .ref (Z.1 70)) B d_X2_add_12 q_in2 rfl (by decide) rfl (by decide) w_WaterOthers_Pad_11 rfl rfl ?_
    refine g_aload_n B d_X2_add_15 rfl rfl ?_
    refine g_get (ci := 2) (k := 1) B d_X2_add_16 q_in2 rfl (by decide) rfl (by decide) w_WaterOthers_Pad_15 rfl rfl ?_
    refine g_iload_n B d_X2_add_19 rfl rfl ?_
    refine g_i2c B d_X2_add_20 ?_
    obtain ⟨h21, h⟩ := q_chk h
    refine g_cast B d_X2_add_21 (by decide) (fun _ _ => rfl) h21 ?_
    refine g_aload_n B d_X2_add_22 rfl rfl ?_
    refine g_dup B d_X2_add_23 rfl ?_
    refine g_get (ci := 2) (k := 1) B d_X2_add_24 q_in2 rfl (by decide) rfl (by decide) w_WaterOthers_Pad_15 rfl rfl ?_
    refine g_iconst (v := 1) B d_X2_add_27 (by decide) ?_
    refine g_iadd B d_X2_add_28 ?_
    refine g_put (ci := 2) (k := 1) (v := (((q_w σ 70 ((σ.1 69 1) : Int32).toNatClampNeg (vp_nar .char (q_i2c a0))).1 69 1) + 1)) (ty := .int) B d_X2_add_29 q_in2 rfl q_yk2 q_nm2 (by decide) (fun _ _ => rfl) (by decide) w_WaterOthers_Pad_15 rfl rfl rfl rfl rfl (Nat.le_of_ble_eq_true rfl) (fun _ _ => rfl) ?_
    refine g_iconst (v := 1) B d_X2_add_32 (by decide) ?_
    obtain ⟨rfl, rfl⟩ := q_ps h
    exact g_zret B En d_X2_add_33 (by decide)
  · refine g_iconst (v := 0) B d_X2_add_9 (by decide) ?_
    obtain ⟨rfl, rfl⟩ := q_ps h
    exact g_zret B En d_X2_add_10 (by decide)

def f_X2_clear  (σ : q_S) : (Int32 × q_S) :=
  ((σ.1 69 1), (q_w σ 69 1 0))
set_option maxRecDepth 20000 in
theorem t_X2_clear {Z : q_Z} {l : Launch}   (σ : q_S) {r : Int32} {σ' : q_S} (h : f_X2_clear σ = (r, σ')) : q_M Z l y_X2_clear prog_4_method_3_code 2 (some .int) 1 [.ref (Z.1 69)] σ (some (.int r)) σ' := by
  refine q_met (by decide +kernel) (Nat.le_of_ble_eq_true rfl) (fun Γ hΓ B En => ?_)
  unfold f_X2_clear at h
  refine g_cut (lv' := [(0, .ref (Z.1 69))]) rfl ?_
  refine g_aload_n B d_X2_clear_0 rfl rfl ?_
  refine g_get (ci := 2) (k := 1) B d_X2_clear_1 q_in2 rfl (by decide) rfl (by decide) w_WaterOthers_Pad_15 rfl rfl ?_
  refine g_istore_n B d_X2_clear_4 rfl (by decide) ?_
  refine g_aload_n B d_X2_clear_5 rfl rfl ?_
  refine g_iconst (v := 0) B d_X2_clear_6 (by decide) ?_
  refine g_put (ci := 2) (k := 1) (v := 0) (ty := .int) B d_X2_clear_7 q_in2 rfl q_yk2 q_nm2 (by decide) (fun _ _ => rfl) (by decide) w_WaterOthers_Pad_15 rfl rfl rfl rfl rfl (Nat.le_of_ble_eq_true rfl) (fun _ _ => rfl) ?_
  refine g_iload_n B d_X2_clear_10 rfl rfl ?_
  obtain ⟨rfl, rfl⟩ := q_pr h
  exact g_iret B En d_X2_clear_11

def f_X2_isDeed (a0 : Int32) : Int32 :=
  if a0 = 60 then (1)
  else (if a0 = 62 then (1)
    else (if a0 = 61 then (1)
      else (if a0 = 42 then (1)
        else (0))))
theorem rb_X2_isDeed (a0 : Int32) : f_X2_isDeed a0 = 0 ∨ f_X2_isDeed a0 = 1 := by
  unfold f_X2_isDeed
  repeat' split
  all_goals simp
set_option maxRecDepth 20000 in
theorem t_X2_isDeed {Z : q_Z} {l : Launch} (a0 : Int32)  (σ : q_S) {r : Int32} (h : f_X2_isDeed a0 = r) : q_M Z l y_X2_isDeed prog_4_method_7_code 1 (some .boolean) 1 [.int a0] σ (some (.int r)) σ := by
  refine q_met (by decide +kernel) (Nat.le_of_ble_eq_true rfl) (fun Γ hΓ B En => ?_)
  unfold f_X2_isDeed at h
  refine g_cut (lv' := [(0, .int a0)]) rfl ?_
  refine g_iload_n B d_X2_isDeed_0 rfl rfl ?_
  refine g_bipush (v := 60) B d_X2_isDeed_1 (by decide) ?_
  refine g_icmp_eq (tgt := 24) B d_X2_isDeed_3 (by decide) h (fun h => ?_) (fun h => ?_)
  · refine g_iconst (v := 1) B d_X2_isDeed_24 (by decide) ?_
    refine g_goto (tgt := 29) B d_X2_isDeed_25 (by decide) ?_
    subst h
    exact g_zret B En d_X2_isDeed_29 (by decide)
  · refine g_iload_n B d_X2_isDeed_6 rfl rfl ?_
    refine g_bipush (v := 62) B d_X2_isDeed_7 (by decide) ?_
    refine g_icmp_eq (tgt := 24) B d_X2_isDeed_9 (by decide) h (fun h => ?_) (fun h => ?_)
    · refine g_iconst (v := 1) B d_X2_isDeed_24 (by decide) ?_
      refine g_goto (tgt := 29) B d_X2_isDeed_25 (by decide) ?_
      subst h
      exact g_zret B En d_X2_isDeed_29 (by decide)
    · refine g_iload_n B d_X2_isDeed_12 rfl rfl ?_
      refine g_bipush (v := 61) B d_X2_isDeed_13 (by decide) ?_
      refine g_icmp_eq (tgt := 24) B d_X2_isDeed_15 (by decide) h (fun h => ?_) (fun h => ?_)
      · refine g_iconst (v := 1) B d_X2_isDeed_24 (by decide) ?_
        refine g_goto (tgt := 29) B d_X2_isDeed_25 (by decide) ?_
        subst h
        exact g_zret B En d_X2_isDeed_29 (by decide)
      · refine g_iload_n B d_X2_isDeed_18 rfl rfl ?_
        refine g_bipush (v := 42) B d_X2_isDeed_19 (by decide) ?_
        refine g_icmp_ne (tgt := 28) B d_X2_isDeed_21 (by decide) h (fun h => ?_) (fun h => ?_)
        · refine g_iconst (v := 0) B d_X2_isDeed_28 (by decide) ?_
          subst h
          exact g_zret B En d_X2_isDeed_29 (by decide)
        · refine g_iconst (v := 1) B d_X2_isDeed_24 (by decide) ?_
          refine g_goto (tgt := 29) B d_X2_isDeed_25 (by decide) ?_
          subst h
          exact g_zret B En d_X2_isDeed_29 (by decide)

theorem w_WaterOthers_Pad_29 : Cond.methodLinkNest "WaterOthers$Pad" 29 y_X9_isWithin "WaterOthers" ∈ q_nst := q_memN 360 (by decide +kernel) (by decide +kernel)
def f_X2_isLetter (a0 : Int32) : Int32 :=
  (f_X9_isWithin a0 65 70)
theorem rb_X2_isLetter (a0 : Int32) : f_X2_isLetter a0 = 0 ∨ f_X2_isLetter a0 = 1 := by
  unfold f_X2_isLetter
  exact (rb_X9_isWithin a0 65 70)
set_option maxRecDepth 20000 in
theorem t_X2_isLetter {Z : q_Z} {l : Launch} (a0 : Int32)  (σ : q_S) {r : Int32} (h : f_X2_isLetter a0 = r) : q_M Z l y_X2_isLetter prog_4_method_5_code 1 (some .boolean) 2 [.int a0] σ (some (.int r)) σ := by
  refine q_met (by decide +kernel) (Nat.le_of_ble_eq_true rfl) (fun Γ hΓ B En => ?_)
  unfold f_X2_isLetter at h
  refine g_cut (lv' := [(0, .int a0)]) rfl ?_
  refine g_iload_n B d_X2_isLetter_0 rfl rfl ?_
  refine g_bipush (v := 65) B d_X2_isLetter_1 (by decide) ?_
  refine g_bipush (v := 70) B d_X2_isLetter_3 (by decide) ?_
  refine g_callSN (As := [.int a0, .int 65, .int 70]) (rest := []) B d_X2_isLetter_5 (t_X9_isWithin a0 65 70 σ rfl) m_X9_isWithin w_WaterOthers_Pad_29 rfl rfl (Nat.le_of_ble_eq_true rfl) (by omega) (by decide) ?_
  subst h
  exact g_zret B En d_X2_isLetter_8 (q_bn (rb_X9_isWithin a0 65 70)).1

def f_X2_isAlone (a0 : Int32) : Int32 :=
  if a0 = 126 then (1)
  else (if a0 = 46 then (1)
    else (0))
theorem rb_X2_isAlone (a0 : Int32) : f_X2_isAlone a0 = 0 ∨ f_X2_isAlone a0 = 1 := by
  unfold f_X2_isAlone
  repeat' split
  all_goals simp
set_option maxRecDepth 20000 in
theorem t_X2_isAlone {Z : q_Z} {l : Launch} (a0 : Int32)  (σ : q_S) {r : Int32} (h : f_X2_isAlone a0 = r) : q_M Z l y_X2_isAlone prog_4_method_6_code 1 (some .boolean) 1 [.int a0] σ (some (.int r)) σ := by
  refine q_met (by decide +kernel) (Nat.le_of_ble_eq_true rfl) (fun Γ hΓ B En => ?_)
  unfold f_X2_isAlone at h
  refine g_cut (lv' := [(0, .int a0)]) rfl ?_
  refine g_iload_n B d_X2_isAlone_0 rfl rfl ?_
  refine g_bipush (v := 126) B d_X2_isAlone_1 (by decide) ?_
  refine g_icmp_eq (tgt := 12) B d_X2_isAlone_3 (by decide) h (fun h => ?_) (fun h => ?_)
  · refine g_iconst (v := 1) B d_X2_isAlone_12 (by decide) ?_
    refine g_goto (tgt := 17) B d_X2_isAlone_13 (by decide) ?_
    subst h
    exact g_zret B En d_X2_isAlone_17 (by decide)
  · refine g_iload_n B d_X2_isAlone_6 rfl rfl ?_
    refine g_bipush (v := 46) B d_X2_isAlone_7 (by decide) ?_
    refine g_icmp_ne (tgt := 16) B d_X2_isAlone_9 (by decide) h (fun h => ?_) (fun h => ?_)
    · refine g_iconst (v := 0) B d_X2_isAlone_16 (by decide) ?_
      subst h
      exact g_zret B En d_X2_isAlone_17 (by decide)
    · refine g_iconst (v := 1) B d_X2_isAlone_12 (by decide) ?_
      refine g_goto (tgt := 17) B d_X2_isAlone_13 (by decide) ?_
      subst h
      exact g_zret B En d_X2_isAlone_17 (by decide)

theorem w_WaterOthers_Pad_19 : Cond.methodLink "WaterOthers$Pad" 19 y_X2_isDeed ∈ q_tbl := q_mem 354 (by decide +kernel) (by decide +kernel)
theorem w_WaterOthers_Pad_23 : Cond.methodLink "WaterOthers$Pad" 23 y_X2_isLetter ∈ q_tbl := q_mem 357 (by decide +kernel) (by decide +kernel)
theorem w_WaterOthers_Pad_26 : Cond.methodLink "WaterOthers$Pad" 26 y_X2_isAlone ∈ q_tbl := q_mem 361 (by decide +kernel) (by decide +kernel)
def f_X2_firstFault_63 (N : Nat) (k4 : Int32 → Int32 → Option Int32) (x2 : Int32) (t0 : Int32) (σ : q_S) : Option Int32 :=
  if t0 = 0 then (some x2)
  else (if ¬ ((x2 : Int32) < 0 ∨ 60 ≤ (x2 : Int32).toNatClampNeg) then k4 (f_X2_isLetter (σ.1 70 (x2 : Int32).toNatClampNeg)) (x2 + 1) else none)
def f_X2_firstFault_4 (N : Nat)   (σ : q_S) : Nat → Int32 → Int32 → Option Int32
  | 0, _, _ => none
  | n + 1, x1, x2 =>
    if (σ.1 69 1) ≤ x2 then (if x1 = 0 then (some (-6))
      else (some (σ.1 69 1)))
    else (if (60 : Int32) ≤ x2 then (if x1 = 0 then (some (-6))
        else (some (σ.1 69 1)))
      else (if x1 = 0 then (if ¬ ((x2 : Int32) < 0 ∨ 60 ≤ (x2 : Int32).toNatClampNeg) then if (f_X2_isLetter (σ.1 70 (x2 : Int32).toNatClampNeg)) = 0 then (if (f_X2_isAlone (σ.1 70 (x2 : Int32).toNatClampNeg)) = 0 then (f_X2_firstFault_63 N (fun x1 x2 => f_X2_firstFault_4 N σ n x1 x2) x2 0 σ)
            else (f_X2_firstFault_63 N (fun x1 x2 => f_X2_firstFault_4 N σ n x1 x2) x2 1 σ))
          else (f_X2_firstFault_63 N (fun x1 x2 => f_X2_firstFault_4 N σ n x1 x2) x2 1 σ) else none)
        else (if ¬ ((x2 : Int32) < 0 ∨ 60 ≤ (x2 : Int32).toNatClampNeg) then f_X2_firstFault_63 N (fun x1 x2 => f_X2_firstFault_4 N σ n x1 x2) x2 (f_X2_isDeed (σ.1 70 (x2 : Int32).toNatClampNeg)) σ else none)))
def f_X2_firstFault (N : Nat)  (σ : q_S) : Option Int32 :=
  f_X2_firstFault_4 N σ N 0 0
set_option maxRecDepth 20000 in
theorem t_X2_firstFault_63 {Z : q_Z} {Γ : q_C} {σ : q_S} {r : Int32} (B : q_B Z Γ prog_4_method_4_code "WaterOthers$Pad" 4 3) (En : q_E Z Γ (some .int) (some (.int r)) σ) (N : Nat) (k4 : Int32 → Int32 → Option Int32) (x2 : Int32) (t0 : Int32) (K4 : ∀ (x1 : Int32) (x2 : Int32), k4 x1 x2 = some r → q_G Z Γ 4 σ 4 [(0, .ref (Z.1 69)), (1, .int x1), (2, .int x2)] [])  (h : f_X2_firstFault_63 N k4 x2 t0 σ = some r) : q_G Z Γ 4 σ 63 [(0, .ref (Z.1 69)), (2, .int x2)] [.int t0] := by
  unfold f_X2_firstFault_63 at h
  refine g_istore_n B d_X2_firstFault_63 rfl (by decide) ?_
  refine g_iload_n B d_X2_firstFault_64 rfl rfl ?_
  refine g_if_ne (tgt := 70) B d_X2_firstFault_65 (by decide) h (fun h => ?_) (fun h => ?_)
  · refine g_aload_n B d_X2_firstFault_70 rfl rfl ?_
    refine g_get (ci := 2) (k := 0) (v := .ref (Z.1 70)) B d_X2_firstFault_71 q_in2 rfl (by decide) rfl (by decide) w_WaterOthers_Pad_11 rfl rfl ?_
    refine g_iload_n B d_X2_firstFault_74 rfl rfl ?_
    obtain ⟨h75, h⟩ := q_chk h
    refine g_cald B d_X2_firstFault_75 (by decide) (fun _ _ => rfl) h75 ?_
    refine g_callS (As := [.int (σ.1 70 (x2 : Int32).toNatClampNeg)]) (rest := []) B d_X2_firstFault_76 (t_X2_isLetter (σ.1 70 (x2 : Int32).toNatClampNeg) σ rfl) m_X2_isLetter w_WaterOthers_Pad_23 rfl rfl (Nat.le_of_ble_eq_true rfl) (by omega) (by decide) ?_
    refine g_istore_n B d_X2_firstFault_79 rfl (by decide) ?_
    refine g_iinc (v := (x2 + 1)) B d_X2_firstFault_80 rfl rfl (by decide) ?_
    refine g_goto (tgt := 4) B d_X2_firstFault_83 (by decide) ?_
    exact g_cut rfl (K4 (f_X2_isLetter (σ.1 70 (x2 : Int32).toNatClampNeg)) (x2 + 1) h)
  · refine g_iload_n B d_X2_firstFault_68 rfl rfl ?_
    obtain rfl := q_po h
    exact g_iret B En d_X2_firstFault_69
set_option maxRecDepth 20000 in
theorem t_X2_firstFault_4 {Z : q_Z} {Γ : q_C} {σ : q_S} {r : Int32} (B : q_B Z Γ prog_4_method_4_code "WaterOthers$Pad" 4 3) (En : q_E Z Γ (some .int) (some (.int r)) σ) (N : Nat)     : ∀ (n : Nat) (x1 : Int32) (x2 : Int32), f_X2_firstFault_4 N σ n x1 x2 = some r → q_G Z Γ 4 σ 4 [(0, .ref (Z.1 69)), (1, .int x1), (2, .int x2)] [] := by
  intro n
  induction n with
  | zero =>
    intro x1 x2 h
    cases h
  | succ n ih =>
    intro x1 x2 h
    unfold f_X2_firstFault_4 at h
    refine g_iload_n B d_X2_firstFault_4 rfl rfl ?_
    refine g_aload_n B d_X2_firstFault_5 rfl rfl ?_
    refine g_get (ci := 2) (k := 1) B d_X2_firstFault_6 q_in2 rfl (by decide) rfl (by decide) w_WaterOthers_Pad_15 rfl rfl ?_
    refine g_icmp_ge (tgt := 86) B d_X2_firstFault_9 (by decide) h (fun h => ?_) (fun h => ?_)
    · refine g_iload_n B d_X2_firstFault_86 rfl rfl ?_
      refine g_if_eq (tgt := 97) B d_X2_firstFault_87 (by decide) h (fun h => ?_) (fun h => ?_)
      · refine g_bipush (v := (-6)) B d_X2_firstFault_97 (by decide) ?_
        obtain rfl := q_po h
        exact g_iret B En d_X2_firstFault_99
      · refine g_aload_n B d_X2_firstFault_90 rfl rfl ?_
        refine g_get (ci := 2) (k := 1) B d_X2_firstFault_91 q_in2 rfl (by decide) rfl (by decide) w_WaterOthers_Pad_15 rfl rfl ?_
        refine g_goto (tgt := 99) B d_X2_firstFault_94 (by decide) ?_
        obtain rfl := q_po h
        exact g_iret B En d_X2_firstFault_99
    · refine g_iload_n B d_X2_firstFault_12 rfl rfl ?_
      refine g_bipush (v := 60) B d_X2_firstFault_13 (by decide) ?_
      refine g_icmp_ge (tgt := 86) B d_X2_firstFault_15 (by decide) h (fun h => ?_) (fun h => ?_)
      · refine g_iload_n B d_X2_firstFault_86 rfl rfl ?_
        refine g_if_eq (tgt := 97) B d_X2_firstFault_87 (by decide) h (fun h => ?_) (fun h => ?_)
        · refine g_bipush (v := (-6)) B d_X2_firstFault_97 (by decide) ?_
          obtain rfl := q_po h
          exact g_iret B En d_X2_firstFault_99
        · refine g_aload_n B d_X2_firstFault_90 rfl rfl ?_
          refine g_get (ci := 2) (k := 1) B d_X2_firstFault_91 q_in2 rfl (by decide) rfl (by decide) w_WaterOthers_Pad_15 rfl rfl ?_
          refine g_goto (tgt := 99) B d_X2_firstFault_94 (by decide) ?_
          obtain rfl := q_po h
          exact g_iret B En d_X2_firstFault_99
      · refine g_iload_n B d_X2_firstFault_18 rfl rfl ?_
        refine g_if_eq (tgt := 34) B d_X2_firstFault_19 (by decide) h (fun h => ?_) (fun h => ?_)
        · refine g_aload_n B d_X2_firstFault_34 rfl rfl ?_
          refine g_get (ci := 2) (k := 0) (v := .ref (Z.1 70)) B d_X2_firstFault_35 q_in2 rfl (by decide) rfl (by decide) w_WaterOthers_Pad_11 rfl rfl ?_
          refine g_iload_n B d_X2_firstFault_38 rfl rfl ?_
          obtain ⟨h39, h⟩ := q_chk h
          refine g_cald B d_X2_firstFault_39 (by decide) (fun _ _ => rfl) h39 ?_
          refine g_callS (As := [.int (σ.1 70 (x2 : Int32).toNatClampNeg)]) (rest := []) B d_X2_firstFault_40 (t_X2_isLetter (σ.1 70 (x2 : Int32).toNatClampNeg) σ rfl) m_X2_isLetter w_WaterOthers_Pad_23 rfl rfl (Nat.le_of_ble_eq_true rfl) (by omega) (by decide) ?_
          refine g_if_ne (tgt := 58) B d_X2_firstFault_43 (by decide) h (fun h => ?_) (fun h => ?_)
          · refine g_iconst (v := 1) B d_X2_firstFault_58 (by decide) ?_
            refine g_goto (tgt := 63) B d_X2_firstFault_59 (by decide) ?_
            exact g_cut rfl (t_X2_firstFault_63 B En N (fun x1 x2 => f_X2_firstFault_4 N σ n x1 x2) x2 1 (ih) h)
          · refine g_aload_n B d_X2_firstFault_46 rfl rfl ?_
            refine g_get (ci := 2) (k := 0) (v := .ref (Z.1 70)) B d_X2_firstFault_47 q_in2 rfl (by decide) rfl (by decide) w_WaterOthers_Pad_11 rfl rfl ?_
            refine g_iload_n B d_X2_firstFault_50 rfl rfl ?_
            refine g_cald B d_X2_firstFault_51 (by decide) (fun _ _ => rfl) h39 ?_
            refine g_callS (As := [.int (σ.1 70 (x2 : Int32).toNatClampNeg)]) (rest := []) B d_X2_firstFault_52 (t_X2_isAlone (σ.1 70 (x2 : Int32).toNatClampNeg) σ rfl) m_X2_isAlone w_WaterOthers_Pad_26 rfl rfl (Nat.le_of_ble_eq_true rfl) (by omega) (by decide) ?_
            refine g_if_eq (tgt := 62) B d_X2_firstFault_55 (by decide) h (fun h => ?_) (fun h => ?_)
            · refine g_iconst (v := 0) B d_X2_firstFault_62 (by decide) ?_
              exact g_cut rfl (t_X2_firstFault_63 B En N (fun x1 x2 => f_X2_firstFault_4 N σ n x1 x2) x2 0 (ih) h)
            · refine g_iconst (v := 1) B d_X2_firstFault_58 (by decide) ?_
              refine g_goto (tgt := 63) B d_X2_firstFault_59 (by decide) ?_
              exact g_cut rfl (t_X2_firstFault_63 B En N (fun x1 x2 => f_X2_firstFault_4 N σ n x1 x2) x2 1 (ih) h)
        · refine g_aload_n B d_X2_firstFault_22 rfl rfl ?_
          refine g_get (ci := 2) (k := 0) (v := .ref (Z.1 70)) B d_X2_firstFault_23 q_in2 rfl (by decide) rfl (by decide) w_WaterOthers_Pad_11 rfl rfl ?_
          refine g_iload_n B d_X2_firstFault_26 rfl rfl ?_
          obtain ⟨h27, h⟩ := q_chk h
          refine g_cald B d_X2_firstFault_27 (by decide) (fun _ _ => rfl) h27 ?_
          refine g_callS (As := [.int (σ.1 70 (x2 : Int32).toNatClampNeg)]) (rest := []) B d_X2_firstFault_28 (t_X2_isDeed (σ.1 70 (x2 : Int32).toNatClampNeg) σ rfl) m_X2_isDeed w_WaterOthers_Pad_19 rfl rfl (Nat.le_of_ble_eq_true rfl) (by omega) (by decide) ?_
          refine g_goto (tgt := 63) B d_X2_firstFault_31 (by decide) ?_
          exact g_cut rfl (t_X2_firstFault_63 B En N (fun x1 x2 => f_X2_firstFault_4 N σ n x1 x2) x2 (f_X2_isDeed (σ.1 70 (x2 : Int32).toNatClampNeg)) (ih) h)
set_option maxRecDepth 20000 in
theorem t_X2_firstFault {Z : q_Z} {l : Launch} (N : Nat)   (σ : q_S) {r : Int32} (h : f_X2_firstFault N σ = some r) : q_M Z l y_X2_firstFault prog_4_method_4_code 4 (some .int) 3 [.ref (Z.1 69)] σ (some (.int r)) σ := by
  refine q_met (by decide +kernel) (Nat.le_of_ble_eq_true rfl) (fun Γ hΓ B En => ?_)
  unfold f_X2_firstFault at h
  refine g_cut (lv' := [(0, .ref (Z.1 69))]) rfl ?_
  refine g_iconst (v := 0) B d_X2_firstFault_0 (by decide) ?_
  refine g_istore_n B d_X2_firstFault_1 rfl (by decide) ?_
  refine g_iconst (v := 0) B d_X2_firstFault_2 (by decide) ?_
  refine g_istore_n B d_X2_firstFault_3 rfl (by decide) ?_
  exact g_cut rfl (t_X2_firstFault_4 B En N N 0 0 h)

theorem w_WaterOthers_Walker_15 : Cond.fieldLink "WaterOthers$Walker" 15 "WaterOthers$Walker" "there" "Z" ∈ q_tbl := q_mem 75 (by decide +kernel) (by decide +kernel)
theorem w_WaterOthers_Walker_19 : Cond.fieldLink "WaterOthers$Walker" 19 "WaterOthers$Walker" "late" "I" ∈ q_tbl := q_mem 78 (by decide +kernel) (by decide +kernel)
theorem w_WaterOthers_Walker_23 : Cond.fieldLink "WaterOthers$Walker" 23 "WaterOthers$Walker" "parted" "Z" ∈ q_tbl := q_mem 82 (by decide +kernel) (by decide +kernel)
theorem w_WaterOthers_Walker_26 : Cond.fieldLink "WaterOthers$Walker" 26 "WaterOthers$Walker" "strayCell" "I" ∈ q_tbl := q_mem 86 (by decide +kernel) (by decide +kernel)
theorem w_WaterOthers_Walker_29 : Cond.fieldLink "WaterOthers$Walker" 29 "WaterOthers$Walker" "strayEast" "Z" ∈ q_tbl := q_mem 89 (by decide +kernel) (by decide +kernel)
theorem w_WaterOthers_Walker_32 : Cond.methodLink "WaterOthers$Walker" 32 arraycopyName ∈ q_tbl := q_mem 380 (by decide +kernel) (by decide +kernel)
theorem w_WaterOthers_Walker_9 : Cond.fieldLink "WaterOthers$Walker" 9 "WaterOthers$Walker" "was" "[I" ∈ q_tbl := q_mem 91 (by decide +kernel) (by decide +kernel)
def f_X8_copy (o : Nat) (a0 : Nat) (σ : q_S) : Option q_S :=
  if (σ.1 a0 0) = 0 ∨ (σ.1 a0 0) = 1 then if ((q_w (q_w σ o 0 (σ.1 a0 0)) o 1 ((q_w σ o 0 (σ.1 a0 0)).1 a0 1)).1 a0 2) = 0 ∨ ((q_w (q_w σ o 0 (σ.1 a0 0)) o 1 ((q_w σ o 0 (σ.1 a0 0)).1 a0 1)).1 a0 2) = 1 then if ((q_w (q_w (q_w (q_w σ o 0 (σ.1 a0 0)) o 1 ((q_w σ o 0 (σ.1 a0 0)).1 a0 1)) o 2 ((q_w (q_w σ o 0 (σ.1 a0 0)) o 1 ((q_w σ o 0 (σ.1 a0 0)).1 a0 1)).1 a0 2)) o 3 ((q_w (q_w (q_w σ o 0 (σ.1 a0 0)) o 1 ((q_w σ o 0 (σ.1 a0 0)).1 a0 1)) o 2 ((q_w (q_w σ o 0 (σ.1 a0 0)) o 1 ((q_w σ o 0 (σ.1 a0 0)).1 a0 1)).1 a0 2)).1 a0 3)).1 a0 4) = 0 ∨ ((q_w (q_w (q_w (q_w σ o 0 (σ.1 a0 0)) o 1 ((q_w σ o 0 (σ.1 a0 0)).1 a0 1)) o 2 ((q_w (q_w σ o 0 (σ.1 a0 0)) o 1 ((q_w σ o 0 (σ.1 a0 0)).1 a0 1)).1 a0 2)) o 3 ((q_w (q_w (q_w σ o 0 (σ.1 a0 0)) o 1 ((q_w σ o 0 (σ.1 a0 0)).1 a0 1)) o 2 ((q_w (q_w σ o 0 (σ.1 a0 0)) o 1 ((q_w σ o 0 (σ.1 a0 0)).1 a0 1)).1 a0 2)).1 a0 3)).1 a0 4) = 1 then some (q_cp (q_w (q_w (q_w (q_w (q_w σ o 0 (σ.1 a0 0)) o 1 ((q_w σ o 0 (σ.1 a0 0)).1 a0 1)) o 2 ((q_w (q_w σ o 0 (σ.1 a0 0)) o 1 ((q_w σ o 0 (σ.1 a0 0)).1 a0 1)).1 a0 2)) o 3 ((q_w (q_w (q_w σ o 0 (σ.1 a0 0)) o 1 ((q_w σ o 0 (σ.1 a0 0)).1 a0 1)) o 2 ((q_w (q_w σ o 0 (σ.1 a0 0)) o 1 ((q_w σ o 0 (σ.1 a0 0)).1 a0 1)).1 a0 2)).1 a0 3)) o 4 ((q_w (q_w (q_w (q_w σ o 0 (σ.1 a0 0)) o 1 ((q_w σ o 0 (σ.1 a0 0)).1 a0 1)) o 2 ((q_w (q_w σ o 0 (σ.1 a0 0)) o 1 ((q_w σ o 0 (σ.1 a0 0)).1 a0 1)).1 a0 2)) o 3 ((q_w (q_w (q_w σ o 0 (σ.1 a0 0)) o 1 ((q_w σ o 0 (σ.1 a0 0)).1 a0 1)) o 2 ((q_w (q_w σ o 0 (σ.1 a0 0)) o 1 ((q_w σ o 0 (σ.1 a0 0)).1 a0 1)).1 a0 2)).1 a0 3)).1 a0 4)) (a0 + 6) (o + 6) (0 : Int32).toNatClampNeg (0 : Int32).toNatClampNeg (6 : Int32).toNatClampNeg) else none else none else none
set_option maxRecDepth 20000 in
theorem t_X8_copy {Z : q_Z} {l : Launch} (o : Nat) (a0 : Nat) (ho : q_Wk o) (h0 : q_Wk a0) (σ : q_S) {σ' : q_S} (h : f_X8_copy o a0 σ = some σ') : q_M Z l y_X8_copy prog_10_method_2_code 2 none 1 [.ref (Z.1 o), .ref (Z.1 a0)] σ none σ' := by
  refine q_met (by decide +kernel) (Nat.le_of_ble_eq_true rfl) (fun Γ hΓ B En => ?_)
  unfold f_X8_copy at h
  refine g_cut (lv' := [(0, .ref (Z.1 o)), (1, .ref (Z.1 a0))]) rfl ?_
  refine g_aload_n B d_X8_copy_0 rfl rfl ?_
  refine g_aload_n B d_X8_copy_1 rfl rfl ?_
  refine g_get (ci := 8) (k := 0) B d_X8_copy_2 q_in8 rfl (q_Wlt h0) ((q_cW h0) _ _) (by decide) w_WaterOthers_Walker_15 rfl rfl ?_
  obtain ⟨h5, h⟩ := q_chk h
  refine g_put (ci := 8) (k := 0) (v := (σ.1 a0 0)) (ty := .boolean) B d_X8_copy_5 q_in8 rfl q_yk8 q_nm8 (q_Wlt ho) (q_cW ho) (by decide) w_WaterOthers_Walker_15 rfl rfl rfl (q_bn h5).1 (q_bn h5).2 (Nat.le_of_ble_eq_true rfl) (fun _ _ => rfl) ?_
  refine g_aload_n B d_X8_copy_8 rfl rfl ?_
  refine g_aload_n B d_X8_copy_9 rfl rfl ?_
  refine g_get (ci := 8) (k := 1) B d_X8_copy_10 q_in8 rfl (q_Wlt h0) ((q_cW h0) _ _) (by decide) w_WaterOthers_Walker_19 rfl rfl ?_
  refine g_put (ci := 8) (k := 1) (v := ((q_w σ o 0 (σ.1 a0 0)).1 a0 1)) (ty := .int) B d_X8_copy_13 q_in8 rfl q_yk8 q_nm8 (q_Wlt ho) (q_cW ho) (by decide) w_WaterOthers_Walker_19 rfl rfl rfl rfl rfl (Nat.le_of_ble_eq_true rfl) (fun _ _ => rfl) ?_
  refine g_aload_n B d_X8_copy_16 rfl rfl ?_
  refine g_aload_n B d_X8_copy_17 rfl rfl ?_
  refine g_get (ci := 8) (k := 2) B d_X8_copy_18 q_in8 rfl (q_Wlt h0) ((q_cW h0) _ _) (by decide) w_WaterOthers_Walker_23 rfl rfl ?_
  obtain ⟨h21, h⟩ := q_chk h
  refine g_put (ci := 8) (k := 2) (v := ((q_w (q_w σ o 0 (σ.1 a0 0)) o 1 ((q_w σ o 0 (σ.1 a0 0)).1 a0 1)).1 a0 2)) (ty := .boolean) B d_X8_copy_21 q_in8 rfl q_yk8 q_nm8 (q_Wlt ho) (q_cW ho) (by decide) w_WaterOthers_Walker_23 rfl rfl rfl (q_bn h21).1 (q_bn h21).2 (Nat.le_of_ble_eq_true rfl) (fun _ _ => rfl) ?_
  refine g_aload_n B d_X8_copy_24 rfl rfl ?_
  refine g_aload_n B d_X8_copy_25 rfl rfl ?_
  refine g_get (ci := 8) (k := 3) B d_X8_copy_26 q_in8 rfl (q_Wlt h0) ((q_cW h0) _ _) (by decide) w_WaterOthers_Walker_26 rfl rfl ?_
  refine g_put (ci := 8) (k := 3) (v := ((q_w (q_w (q_w σ o 0 (σ.1 a0 0)) o 1 ((q_w σ o 0 (σ.1 a0 0)).1 a0 1)) o 2 ((q_w (q_w σ o 0 (σ.1 a0 0)) o 1 ((q_w σ o 0 (σ.1 a0 0)).1 a0 1)).1 a0 2)).1 a0 3)) (ty := .int) B d_X8_copy_29 q_in8 rfl q_yk8 q_nm8 (q_Wlt ho) (q_cW ho) (by decide) w_WaterOthers_Walker_26 rfl rfl rfl rfl rfl (Nat.le_of_ble_eq_true rfl) (fun _ _ => rfl) ?_
  refine g_aload_n B d_X8_copy_32 rfl rfl ?_
  refine g_aload_n B d_X8_copy_33 rfl rfl ?_
  refine g_get (ci := 8) (k := 4) B d_X8_copy_34 q_in8 rfl (q_Wlt h0) ((q_cW h0) _ _) (by decide) w_WaterOthers_Walker_29 rfl rfl ?_
  obtain ⟨h37, h⟩ := q_chk h
  refine g_put (ci := 8) (k := 4) (v := ((q_w (q_w (q_w (q_w σ o 0 (σ.1 a0 0)) o 1 ((q_w σ o 0 (σ.1 a0 0)).1 a0 1)) o 2 ((q_w (q_w σ o 0 (σ.1 a0 0)) o 1 ((q_w σ o 0 (σ.1 a0 0)).1 a0 1)).1 a0 2)) o 3 ((q_w (q_w (q_w σ o 0 (σ.1 a0 0)) o 1 ((q_w σ o 0 (σ.1 a0 0)).1 a0 1)) o 2 ((q_w (q_w σ o 0 (σ.1 a0 0)) o 1 ((q_w σ o 0 (σ.1 a0 0)).1 a0 1)).1 a0 2)).1 a0 3)).1 a0 4)) (ty := .boolean) B d_X8_copy_37 q_in8 rfl q_yk8 q_nm8 (q_Wlt ho) (q_cW ho) (by decide) w_WaterOthers_Walker_29 rfl rfl rfl (q_bn h37).1 (q_bn h37).2 (Nat.le_of_ble_eq_true rfl) (fun _ _ => rfl) ?_
  refine g_aload_n B d_X8_copy_40 rfl rfl ?_
  refine g_get (ci := 8) (k := 5) (v := .ref (Z.1 (a0 + 6))) B d_X8_copy_41 q_in8 rfl (q_Wlt h0) ((q_cW h0) _ _) (by decide) w_WaterOthers_Walker_9 rfl rfl ?_
  refine g_iconst (v := 0) B d_X8_copy_44 (by decide) ?_
  refine g_aload_n B d_X8_copy_45 rfl rfl ?_
  refine g_get (ci := 8) (k := 5) (v := .ref (Z.1 (o + 6))) B d_X8_copy_46 q_in8 rfl (q_Wlt ho) ((q_cW ho) _ _) (by decide) w_WaterOthers_Walker_9 rfl rfl ?_
  refine g_iconst (v := 0) B d_X8_copy_49 (by decide) ?_
  refine g_bipush (v := 6) B d_X8_copy_50 (by decide) ?_
  refine g_copy B d_X8_copy_52 w_WaterOthers_Walker_32 k_acN k_acS k_acI (q_WAlt h0) (q_WAlt ho) (q_cWA h0) (q_cWA ho) (by decide) (by decide) (by decide) (by decide) (by decide) (by decide) (Nat.le_of_ble_eq_true rfl) ?_
  obtain rfl := q_po h
  exact g_vret B En d_X8_copy_55

def f_X8_otherBehindStep (o : Nat) (a0 : Int32) (σ : q_S) : Option Int32 :=
  if (σ.1 o 1) = 0 then (some a0)
  else (if ¬ ((((σ.1 o 1) - 1) : Int32) < 0 ∨ 6 ≤ (((σ.1 o 1) - 1) : Int32).toNatClampNeg) then some (σ.1 (o + 6) (((σ.1 o 1) - 1) : Int32).toNatClampNeg) else none)
set_option maxRecDepth 20000 in
theorem t_X8_otherBehindStep {Z : q_Z} {l : Launch} (o : Nat) (a0 : Int32) (ho : q_Wk o) (σ : q_S) {r : Int32} (h : f_X8_otherBehindStep o a0 σ = some r) : q_M Z l y_X8_otherBehindStep prog_10_method_6_code 2 (some .int) 1 [.ref (Z.1 o), .int a0] σ (some (.int r)) σ := by
  refine q_met (by decide +kernel) (Nat.le_of_ble_eq_true rfl) (fun Γ hΓ B En => ?_)
  unfold f_X8_otherBehindStep at h
  refine g_cut (lv' := [(0, .ref (Z.1 o)), (1, .int a0)]) rfl ?_
  refine g_aload_n B d_X8_otherBehindStep_0 rfl rfl ?_
  refine g_get (ci := 8) (k := 1) B d_X8_otherBehindStep_1 q_in8 rfl (q_Wlt ho) ((q_cW ho) _ _) (by decide) w_WaterOthers_Walker_19 rfl rfl ?_
  refine g_if_ne (tgt := 11) B d_X8_otherBehindStep_4 (by decide) h (fun h => ?_) (fun h => ?_)
  · refine g_aload_n B d_X8_otherBehindStep_11 rfl rfl ?_
    refine g_get (ci := 8) (k := 5) (v := .ref (Z.1 (o + 6))) B d_X8_otherBehindStep_12 q_in8 rfl (q_Wlt ho) ((q_cW ho) _ _) (by decide) w_WaterOthers_Walker_9 rfl rfl ?_
    refine g_aload_n B d_X8_otherBehindStep_15 rfl rfl ?_
    refine g_get (ci := 8) (k := 1) B d_X8_otherBehindStep_16 q_in8 rfl (q_Wlt ho) ((q_cW ho) _ _) (by decide) w_WaterOthers_Walker_19 rfl rfl ?_
    refine g_iconst (v := 1) B d_X8_otherBehindStep_19 (by decide) ?_
    refine g_isub B d_X8_otherBehindStep_20 ?_
    obtain ⟨h21, h⟩ := q_chk h
    refine g_iald B d_X8_otherBehindStep_21 (q_WAlt ho) (q_cWA ho) h21 ?_
    obtain rfl := q_po h
    exact g_iret B En d_X8_otherBehindStep_22
  · refine g_iload_n B d_X8_otherBehindStep_7 rfl rfl ?_
    refine g_goto (tgt := 22) B d_X8_otherBehindStep_8 (by decide) ?_
    obtain rfl := q_po h
    exact g_iret B En d_X8_otherBehindStep_22

theorem w_WaterOthers_Walker_42 : Cond.methodLink "WaterOthers$Walker" 42 y_J7_fill_53178 ∈ q_tbl := q_mem 308 (by decide +kernel) (by decide +kernel)
def f_X8_beginAt (N : Nat) (o : Nat) (a0 : Int32) (σ : q_S) : Option q_S :=
  (f_J7_fill_53178 N (o + 6) 6 a0 (q_w σ o 2 0)).bind fun z10 =>
  some z10
set_option maxRecDepth 20000 in
theorem t_X8_beginAt {Z : q_Z} {l : Launch} (N : Nat) (o : Nat) (a0 : Int32) (ho : q_Wk o) (σ : q_S) {σ' : q_S} (h : f_X8_beginAt N o a0 σ = some σ') : q_M Z l y_X8_beginAt prog_10_method_4_code 2 none 2 [.ref (Z.1 o), .int a0] σ none σ' := by
  refine q_met (by decide +kernel) (Nat.le_of_ble_eq_true rfl) (fun Γ hΓ B En => ?_)
  unfold f_X8_beginAt at h
  refine g_cut (lv' := [(0, .ref (Z.1 o)), (1, .int a0)]) rfl ?_
  refine g_aload_n B d_X8_beginAt_0 rfl rfl ?_
  refine g_iconst (v := 0) B d_X8_beginAt_1 (by decide) ?_
  refine g_put (ci := 8) (k := 2) (v := 0) (ty := .boolean) B d_X8_beginAt_2 q_in8 rfl q_yk8 q_nm8 (q_Wlt ho) (q_cW ho) (by decide) w_WaterOthers_Walker_23 rfl rfl rfl (by decide) (by decide) (Nat.le_of_ble_eq_true rfl) (fun _ _ => rfl) ?_
  refine g_aload_n B d_X8_beginAt_5 rfl rfl ?_
  refine g_get (ci := 8) (k := 5) (v := .ref (Z.1 (o + 6))) B d_X8_beginAt_6 q_in8 rfl (q_Wlt ho) ((q_cW ho) _ _) (by decide) w_WaterOthers_Walker_9 rfl rfl ?_
  refine g_iload_n B d_X8_beginAt_9 rfl rfl ?_
  obtain ⟨z10, g10, h⟩ := q_bind h
  refine g_callS (As := [.ref (Z.1 (o + 6)), .int a0]) (rest := []) B d_X8_beginAt_10 (t_J7_fill_53178 N (o + 6) 6 a0 ⟨(q_WAlt ho), (q_cWA ho)⟩ (q_w σ o 2 0) g10) m_J7_fill_53178 w_WaterOthers_Walker_42 rfl rfl (Nat.le_of_ble_eq_true rfl) (by omega) (by decide) ?_
  obtain rfl := q_po h
  exact g_vret B En d_X8_beginAt_13

theorem w_WaterOthers_Walker_38 : Cond.methodLink "WaterOthers$Walker" 38 y_X8_beginAt ∈ q_tbl := q_mem 304 (by decide +kernel) (by decide +kernel)
def f_X8_arrive (N : Nat) (o : Nat) (a0 : Int32) (a1 : Int32) (σ : q_S) : Option q_S :=
  (f_X8_beginAt N o a0 (q_w (q_w σ o 0 1) o 1 a1)).bind fun z12 =>
  some z12
set_option maxRecDepth 20000 in
theorem t_X8_arrive {Z : q_Z} {l : Launch} (N : Nat) (o : Nat) (a0 : Int32) (a1 : Int32) (ho : q_Wk o) (σ : q_S) {σ' : q_S} (h : f_X8_arrive N o a0 a1 σ = some σ') : q_M Z l y_X8_arrive prog_10_method_3_code 3 none 3 [.ref (Z.1 o), .int a0, .int a1] σ none σ' := by
  refine q_met (by decide +kernel) (Nat.le_of_ble_eq_true rfl) (fun Γ hΓ B En => ?_)
  unfold f_X8_arrive at h
  refine g_cut (lv' := [(0, .ref (Z.1 o)), (1, .int a0), (2, .int a1)]) rfl ?_
  refine g_aload_n B d_X8_arrive_0 rfl rfl ?_
  refine g_iconst (v := 1) B d_X8_arrive_1 (by decide) ?_
  refine g_put (ci := 8) (k := 0) (v := 1) (ty := .boolean) B d_X8_arrive_2 q_in8 rfl q_yk8 q_nm8 (q_Wlt ho) (q_cW ho) (by decide) w_WaterOthers_Walker_15 rfl rfl rfl (by decide) (by decide) (Nat.le_of_ble_eq_true rfl) (fun _ _ => rfl) ?_
  refine g_aload_n B d_X8_arrive_5 rfl rfl ?_
  refine g_iload_n B d_X8_arrive_6 rfl rfl ?_
  refine g_put (ci := 8) (k := 1) (v := a1) (ty := .int) B d_X8_arrive_7 q_in8 rfl q_yk8 q_nm8 (q_Wlt ho) (q_cW ho) (by decide) w_WaterOthers_Walker_19 rfl rfl rfl rfl rfl (Nat.le_of_ble_eq_true rfl) (fun _ _ => rfl) ?_
  refine g_aload_n B d_X8_arrive_10 rfl rfl ?_
  refine g_iload_n B d_X8_arrive_11 rfl rfl ?_
  obtain ⟨z12, g12, h⟩ := q_bind h
  refine g_callV (p0 := o) (ci := 8) (As := [.int a0]) (rest := []) B d_X8_arrive_12 (t_X8_beginAt N o a0 ho (q_w (q_w σ o 0 1) o 1 a1) g12) m_X8_beginAt w_WaterOthers_Walker_38 (q_Wlt ho) ((q_cW ho) _ _) rfl rfl rfl (Nat.le_of_ble_eq_true rfl) (by omega) (by decide) ?_
  obtain rfl := q_po h
  exact g_vret B En d_X8_arrive_15

theorem w_WaterOthers_Walker_48 : Cond.methodLinkNest "WaterOthers$Walker" 48 y_X9_isEastNext "WaterOthers" ∈ q_nst := q_memN 448 (by decide +kernel) (by decide +kernel)
def f_X8_stray (o : Nat) (σ : q_S) : q_S :=
  if ((q_w σ o 4 (f_X9_isEastNext (σ.1 o 3) (σ.1 o 4))).1 o 4) = 0 then ((q_w (q_w σ o 4 (f_X9_isEastNext (σ.1 o 3) (σ.1 o 4))) o 3 (((q_w σ o 4 (f_X9_isEastNext (σ.1 o 3) (σ.1 o 4))).1 o 3) + (-1))))
  else ((q_w (q_w σ o 4 (f_X9_isEastNext (σ.1 o 3) (σ.1 o 4))) o 3 (((q_w σ o 4 (f_X9_isEastNext (σ.1 o 3) (σ.1 o 4))).1 o 3) + 1)))
set_option maxRecDepth 20000 in
theorem t_X8_stray {Z : q_Z} {l : Launch} (o : Nat) (ho : q_Wk o) (σ : q_S) {σ' : q_S} (h : f_X8_stray o σ = σ') : q_M Z l y_X8_stray prog_10_method_8_code 1 none 2 [.ref (Z.1 o)] σ none σ' := by
  refine q_met (by decide +kernel) (Nat.le_of_ble_eq_true rfl) (fun Γ hΓ B En => ?_)
  unfold f_X8_stray at h
  refine g_cut (lv' := [(0, .ref (Z.1 o))]) rfl ?_
  refine g_aload_n B d_X8_stray_0 rfl rfl ?_
  refine g_aload_n B d_X8_stray_1 rfl rfl ?_
  refine g_get (ci := 8) (k := 3) B d_X8_stray_2 q_in8 rfl (q_Wlt ho) ((q_cW ho) _ _) (by decide) w_WaterOthers_Walker_26 rfl rfl ?_
  refine g_aload_n B d_X8_stray_5 rfl rfl ?_
  refine g_get (ci := 8) (k := 4) B d_X8_stray_6 q_in8 rfl (q_Wlt ho) ((q_cW ho) _ _) (by decide) w_WaterOthers_Walker_29 rfl rfl ?_
  refine g_callSN (As := [.int (σ.1 o 3), .int (σ.1 o 4)]) (rest := [.ref (Z.1 o)]) B d_X8_stray_9 (t_X9_isEastNext (σ.1 o 3) (σ.1 o 4) σ rfl) m_X9_isEastNext w_WaterOthers_Walker_48 rfl rfl (Nat.le_of_ble_eq_true rfl) (by omega) (by decide) ?_
  refine g_put (ci := 8) (k := 4) (v := (f_X9_isEastNext (σ.1 o 3) (σ.1 o 4))) (ty := .boolean) B d_X8_stray_12 q_in8 rfl q_yk8 q_nm8 (q_Wlt ho) (q_cW ho) (by decide) w_WaterOthers_Walker_29 rfl rfl rfl (q_bn (rb_X9_isEastNext (σ.1 o 3) (σ.1 o 4))).1 (q_bn (rb_X9_isEastNext (σ.1 o 3) (σ.1 o 4))).2 (Nat.le_of_ble_eq_true rfl) (fun _ _ => rfl) ?_
  refine g_aload_n B d_X8_stray_15 rfl rfl ?_
  refine g_dup B d_X8_stray_16 rfl ?_
  refine g_get (ci := 8) (k := 3) B d_X8_stray_17 q_in8 rfl (q_Wlt ho) ((q_cW ho) _ _) (by decide) w_WaterOthers_Walker_26 rfl rfl ?_
  refine g_aload_n B d_X8_stray_20 rfl rfl ?_
  refine g_get (ci := 8) (k := 4) B d_X8_stray_21 q_in8 rfl (q_Wlt ho) ((q_cW ho) _ _) (by decide) w_WaterOthers_Walker_29 rfl rfl ?_
  refine g_if_eq (tgt := 31) B d_X8_stray_24 (by decide) h (fun h => ?_) (fun h => ?_)
  · refine g_iconst (v := (-1)) B d_X8_stray_31 (by decide) ?_
    refine g_iadd B d_X8_stray_32 ?_
    refine g_put (ci := 8) (k := 3) (v := (((q_w σ o 4 (f_X9_isEastNext (σ.1 o 3) (σ.1 o 4))).1 o 3) + (-1))) (ty := .int) B d_X8_stray_33 q_in8 rfl q_yk8 q_nm8 (q_Wlt ho) (q_cW ho) (by decide) w_WaterOthers_Walker_26 rfl rfl rfl rfl rfl (Nat.le_of_ble_eq_true rfl) (fun _ _ => rfl) ?_
    subst h
    exact g_vret B En d_X8_stray_36
  · refine g_iconst (v := 1) B d_X8_stray_27 (by decide) ?_
    refine g_goto (tgt := 32) B d_X8_stray_28 (by decide) ?_
    refine g_iadd B d_X8_stray_32 ?_
    refine g_put (ci := 8) (k := 3) (v := (((q_w σ o 4 (f_X9_isEastNext (σ.1 o 3) (σ.1 o 4))).1 o 3) + 1)) (ty := .int) B d_X8_stray_33 q_in8 rfl q_yk8 q_nm8 (q_Wlt ho) (q_cW ho) (by decide) w_WaterOthers_Walker_26 rfl rfl rfl rfl rfl (Nat.le_of_ble_eq_true rfl) (fun _ _ => rfl) ?_
    subst h
    exact g_vret B En d_X8_stray_36

def f_X8_part (o : Nat) (a0 : Int32) (σ : q_S) : q_S :=
  (q_w (q_w (q_w σ o 2 1) o 3 a0) o 4 1)
set_option maxRecDepth 20000 in
theorem t_X8_part {Z : q_Z} {l : Launch} (o : Nat) (a0 : Int32) (ho : q_Wk o) (σ : q_S) {σ' : q_S} (h : f_X8_part o a0 σ = σ') : q_M Z l y_X8_part prog_10_method_7_code 2 none 1 [.ref (Z.1 o), .int a0] σ none σ' := by
  refine q_met (by decide +kernel) (Nat.le_of_ble_eq_true rfl) (fun Γ hΓ B En => ?_)
  unfold f_X8_part at h
  refine g_cut (lv' := [(0, .ref (Z.1 o)), (1, .int a0)]) rfl ?_
  refine g_aload_n B d_X8_part_0 rfl rfl ?_
  refine g_iconst (v := 1) B d_X8_part_1 (by decide) ?_
  refine g_put (ci := 8) (k := 2) (v := 1) (ty := .boolean) B d_X8_part_2 q_in8 rfl q_yk8 q_nm8 (q_Wlt ho) (q_cW ho) (by decide) w_WaterOthers_Walker_23 rfl rfl rfl (by decide) (by decide) (Nat.le_of_ble_eq_true rfl) (fun _ _ => rfl) ?_
  refine g_aload_n B d_X8_part_5 rfl rfl ?_
  refine g_iload_n B d_X8_part_6 rfl rfl ?_
  refine g_put (ci := 8) (k := 3) (v := a0) (ty := .int) B d_X8_part_7 q_in8 rfl q_yk8 q_nm8 (q_Wlt ho) (q_cW ho) (by decide) w_WaterOthers_Walker_26 rfl rfl rfl rfl rfl (Nat.le_of_ble_eq_true rfl) (fun _ _ => rfl) ?_
  refine g_aload_n B d_X8_part_10 rfl rfl ?_
  refine g_iconst (v := 1) B d_X8_part_11 (by decide) ?_
  refine g_put (ci := 8) (k := 4) (v := 1) (ty := .boolean) B d_X8_part_12 q_in8 rfl q_yk8 q_nm8 (q_Wlt ho) (q_cW ho) (by decide) w_WaterOthers_Walker_29 rfl rfl rfl (by decide) (by decide) (Nat.le_of_ble_eq_true rfl) (fun _ _ => rfl) ?_
  subst h
  exact g_vret B En d_X8_part_15

def f_X8_stepTo_2 (N : Nat)  (p0 : Nat) (x1 : Int32)  : Nat → Int32 → q_S → Option q_S
  | 0, _, _ => none
  | n + 1, x2, σ =>
    if x2 ≤ 0 then (some (q_w σ (p0 + 6) (0 : Int32).toNatClampNeg x1))
    else (if ¬ (((x2 - 1) : Int32) < 0 ∨ 6 ≤ ((x2 - 1) : Int32).toNatClampNeg) then if ¬ ((x2 : Int32) < 0 ∨ 6 ≤ (x2 : Int32).toNatClampNeg) then f_X8_stepTo_2 N p0 x1 n (x2 + (-1)) (q_w σ (p0 + 6) (x2 : Int32).toNatClampNeg (σ.1 (p0 + 6) ((x2 - 1) : Int32).toNatClampNeg)) else none else none)
def f_X8_stepTo (N : Nat) (o : Nat) (a0 : Int32) (σ : q_S) : Option q_S :=
  f_X8_stepTo_2 N o a0 N 5 σ
set_option maxRecDepth 20000 in
theorem t_X8_stepTo_2 {Z : q_Z} {Γ : q_C} {σ' : q_S} (B : q_B Z Γ prog_10_method_5_code "WaterOthers$Walker" 3 1) (En : q_E Z Γ none none σ') (N : Nat)  (p0 : Nat) (x1 : Int32)  (hp0 : q_Wk p0) : ∀ (n : Nat) (x2 : Int32) (σ : q_S), f_X8_stepTo_2 N p0 x1 n x2 σ = some σ' → q_G Z Γ 3 σ 2 [(0, .ref (Z.1 p0)), (1, .int x1), (2, .int x2)] [] := by
  intro n
  induction n with
  | zero =>
    intro x2 σ h
    cases h
  | succ n ih =>
    intro x2 σ h
    unfold f_X8_stepTo_2 at h
    refine g_iload_n B d_X8_stepTo_2 rfl rfl ?_
    refine g_if_le (tgt := 26) B d_X8_stepTo_3 (by decide) h (fun h => ?_) (fun h => ?_)
    · refine g_aload_n B d_X8_stepTo_26 rfl rfl ?_
      refine g_get (ci := 8) (k := 5) (v := .ref (Z.1 (p0 + 6))) B d_X8_stepTo_27 q_in8 rfl (q_Wlt hp0) ((q_cW hp0) _ _) (by decide) w_WaterOthers_Walker_9 rfl rfl ?_
      refine g_iconst (v := 0) B d_X8_stepTo_30 (by decide) ?_
      refine g_iload_n B d_X8_stepTo_31 rfl rfl ?_
      refine g_iast B d_X8_stepTo_32 (q_WAlt hp0) (q_cWA hp0) (by decide) ?_
      obtain rfl := q_po h
      exact g_vret B En d_X8_stepTo_33
    · refine g_aload_n B d_X8_stepTo_6 rfl rfl ?_
      refine g_get (ci := 8) (k := 5) (v := .ref (Z.1 (p0 + 6))) B d_X8_stepTo_7 q_in8 rfl (q_Wlt hp0) ((q_cW hp0) _ _) (by decide) w_WaterOthers_Walker_9 rfl rfl ?_
      refine g_iload_n B d_X8_stepTo_10 rfl rfl ?_
      refine g_aload_n B d_X8_stepTo_11 rfl rfl ?_
      refine g_get (ci := 8) (k := 5) (v := .ref (Z.1 (p0 + 6))) B d_X8_stepTo_12 q_in8 rfl (q_Wlt hp0) ((q_cW hp0) _ _) (by decide) w_WaterOthers_Walker_9 rfl rfl ?_
      refine g_iload_n B d_X8_stepTo_15 rfl rfl ?_
      refine g_iconst (v := 1) B d_X8_stepTo_16 (by decide) ?_
      refine g_isub B d_X8_stepTo_17 ?_
      obtain ⟨h18, h⟩ := q_chk h
      refine g_iald B d_X8_stepTo_18 (q_WAlt hp0) (q_cWA hp0) h18 ?_
      obtain ⟨h19, h⟩ := q_chk h
      refine g_iast B d_X8_stepTo_19 (q_WAlt hp0) (q_cWA hp0) h19 ?_
      refine g_iinc (v := (x2 + (-1))) B d_X8_stepTo_20 rfl rfl (by decide) ?_
      refine g_goto (tgt := 2) B d_X8_stepTo_23 (by decide) ?_
      exact g_cut rfl (ih (x2 + (-1)) (q_w σ (p0 + 6) (x2 : Int32).toNatClampNeg (σ.1 (p0 + 6) ((x2 - 1) : Int32).toNatClampNeg)) h)
set_option maxRecDepth 20000 in
theorem t_X8_stepTo {Z : q_Z} {l : Launch} (N : Nat) (o : Nat) (a0 : Int32) (ho : q_Wk o) (σ : q_S) {σ' : q_S} (h : f_X8_stepTo N o a0 σ = some σ') : q_M Z l y_X8_stepTo prog_10_method_5_code 3 none 1 [.ref (Z.1 o), .int a0] σ none σ' := by
  refine q_met (by decide +kernel) (Nat.le_of_ble_eq_true rfl) (fun Γ hΓ B En => ?_)
  unfold f_X8_stepTo at h
  refine g_cut (lv' := [(0, .ref (Z.1 o)), (1, .int a0)]) rfl ?_
  refine g_iconst (v := 5) B d_X8_stepTo_0 (by decide) ?_
  refine g_istore_n B d_X8_stepTo_1 rfl (by decide) ?_
  exact g_cut rfl (t_X8_stepTo_2 B En N o a0 ho N 5 σ h)

theorem w_WaterOthers_Sights_13 : Cond.fieldLink "WaterOthers$Sights" 13 "WaterOthers$Sights" "cells" "[I" ∈ q_tbl := q_mem 57 (by decide +kernel) (by decide +kernel)
theorem w_WaterOthers_Sights_16 : Cond.fieldLink "WaterOthers$Sights" 16 "WaterOthers$Sights" "count" "I" ∈ q_tbl := q_mem 59 (by decide +kernel) (by decide +kernel)
theorem w_WaterOthers_Sights_20 : Cond.methodLink "WaterOthers$Sights" 20 arraycopyName ∈ q_tbl := q_mem 387 (by decide +kernel) (by decide +kernel)
theorem w_WaterOthers_Sights_9 : Cond.fieldLink "WaterOthers$Sights" 9 "WaterOthers$Sights" "beats" "[I" ∈ q_tbl := q_mem 55 (by decide +kernel) (by decide +kernel)
def f_X5_copy (o : Nat) (a0 : Nat) (σ : q_S) : q_S :=
  (q_cp (q_cp (q_w σ o 2 (σ.1 a0 2)) (a0 + 1) (o + 1) (0 : Int32).toNatClampNeg (0 : Int32).toNatClampNeg (8 : Int32).toNatClampNeg) (a0 + 2) (o + 2) (0 : Int32).toNatClampNeg (0 : Int32).toNatClampNeg (8 : Int32).toNatClampNeg)
set_option maxRecDepth 20000 in
theorem t_X5_copy {Z : q_Z} {l : Launch} (o : Nat) (a0 : Nat) (ho : q_Sg o) (h0 : q_Sg a0) (σ : q_S) {σ' : q_S} (h : f_X5_copy o a0 σ = σ') : q_M Z l y_X5_copy prog_7_method_3_code 2 none 1 [.ref (Z.1 o), .ref (Z.1 a0)] σ none σ' := by
  refine q_met (by decide +kernel) (Nat.le_of_ble_eq_true rfl) (fun Γ hΓ B En => ?_)
  unfold f_X5_copy at h
  refine g_cut (lv' := [(0, .ref (Z.1 o)), (1, .ref (Z.1 a0))]) rfl ?_
  refine g_aload_n B d_X5_copy_0 rfl rfl ?_
  refine g_aload_n B d_X5_copy_1 rfl rfl ?_
  refine g_get (ci := 5) (k := 2) B d_X5_copy_2 q_in5 rfl (q_Slt h0) ((q_cS h0) _ _) (by decide) w_WaterOthers_Sights_16 rfl rfl ?_
  refine g_put (ci := 5) (k := 2) (v := (σ.1 a0 2)) (ty := .int) B d_X5_copy_5 q_in5 rfl q_yk5 q_nm5 (q_Slt ho) (q_cS ho) (by decide) w_WaterOthers_Sights_16 rfl rfl rfl rfl rfl (Nat.le_of_ble_eq_true rfl) (fun _ _ => rfl) ?_
  refine g_aload_n B d_X5_copy_8 rfl rfl ?_
  refine g_get (ci := 5) (k := 0) (v := .ref (Z.1 (a0 + 1))) B d_X5_copy_9 q_in5 rfl (q_Slt h0) ((q_cS h0) _ _) (by decide) w_WaterOthers_Sights_9 rfl rfl ?_
  refine g_iconst (v := 0) B d_X5_copy_12 (by decide) ?_
  refine g_aload_n B d_X5_copy_13 rfl rfl ?_
  refine g_get (ci := 5) (k := 0) (v := .ref (Z.1 (o + 1))) B d_X5_copy_14 q_in5 rfl (q_Slt ho) ((q_cS ho) _ _) (by decide) w_WaterOthers_Sights_9 rfl rfl ?_
  refine g_iconst (v := 0) B d_X5_copy_17 (by decide) ?_
  refine g_bipush (v := 8) B d_X5_copy_18 (by decide) ?_
  refine g_copy B d_X5_copy_20 w_WaterOthers_Sights_20 k_acN k_acS k_acI (q_S1lt h0) (q_S1lt ho) (q_cS1 h0) (q_cS1 ho) (by decide) (by decide) (by decide) (by decide) (by decide) (by decide) (Nat.le_of_ble_eq_true rfl) ?_
  refine g_aload_n B d_X5_copy_23 rfl rfl ?_
  refine g_get (ci := 5) (k := 1) (v := .ref (Z.1 (a0 + 2))) B d_X5_copy_24 q_in5 rfl (q_Slt h0) ((q_cS h0) _ _) (by decide) w_WaterOthers_Sights_13 rfl rfl ?_
  refine g_iconst (v := 0) B d_X5_copy_27 (by decide) ?_
  refine g_aload_n B d_X5_copy_28 rfl rfl ?_
  refine g_get (ci := 5) (k := 1) (v := .ref (Z.1 (o + 2))) B d_X5_copy_29 q_in5 rfl (q_Slt ho) ((q_cS ho) _ _) (by decide) w_WaterOthers_Sights_13 rfl rfl ?_
  refine g_iconst (v := 0) B d_X5_copy_32 (by decide) ?_
  refine g_bipush (v := 8) B d_X5_copy_33 (by decide) ?_
  refine g_copy B d_X5_copy_35 w_WaterOthers_Sights_20 k_acN k_acS k_acI (q_S2lt h0) (q_S2lt ho) (q_cS2 h0) (q_cS2 ho) (by decide) (by decide) (by decide) (by decide) (by decide) (by decide) (Nat.le_of_ble_eq_true rfl) ?_
  subst h
  exact g_vret B En d_X5_copy_38

def f_X5_add (o : Nat) (a0 : Int32) (a1 : Int32) (σ : q_S) : Option (Int32 × q_S) :=
  if (σ.1 o 2) < 8 then (if ¬ (((σ.1 o 2) : Int32) < 0 ∨ 8 ≤ ((σ.1 o 2) : Int32).toNatClampNeg) then if ¬ ((((q_w σ (o + 1) ((σ.1 o 2) : Int32).toNatClampNeg a0).1 o 2) : Int32) < 0 ∨ 8 ≤ (((q_w σ (o + 1) ((σ.1 o 2) : Int32).toNatClampNeg a0).1 o 2) : Int32).toNatClampNeg) then some (1, (q_w (q_w (q_w σ (o + 1) ((σ.1 o 2) : Int32).toNatClampNeg a0) (o + 2) (((q_w σ (o + 1) ((σ.1 o 2) : Int32).toNatClampNeg a0).1 o 2) : Int32).toNatClampNeg a1) o 2 (((q_w (q_w σ (o + 1) ((σ.1 o 2) : Int32).toNatClampNeg a0) (o + 2) (((q_w σ (o + 1) ((σ.1 o 2) : Int32).toNatClampNeg a0).1 o 2) : Int32).toNatClampNeg a1).1 o 2) + 1))) else none else none)
  else (some (0, σ))
set_option maxRecDepth 20000 in
theorem t_X5_add {Z : q_Z} {l : Launch} (o : Nat) (a0 : Int32) (a1 : Int32) (ho : q_Sg o) (σ : q_S) {r : Int32} {σ' : q_S} (h : f_X5_add o a0 a1 σ = some (r, σ')) : q_M Z l y_X5_add prog_7_method_2_code 3 (some .boolean) 1 [.ref (Z.1 o), .int a0, .int a1] σ (some (.int r)) σ' := by
  refine q_met (by decide +kernel) (Nat.le_of_ble_eq_true rfl) (fun Γ hΓ B En => ?_)
  unfold f_X5_add at h
  refine g_cut (lv' := [(0, .ref (Z.1 o)), (1, .int a0), (2, .int a1)]) rfl ?_
  refine g_aload_n B d_X5_add_0 rfl rfl ?_
  refine g_get (ci := 5) (k := 2) B d_X5_add_1 q_in5 rfl (q_Slt ho) ((q_cS ho) _ _) (by decide) w_WaterOthers_Sights_16 rfl rfl ?_
  refine g_bipush (v := 8) B d_X5_add_4 (by decide) ?_
  refine g_icmp_lt (tgt := 11) B d_X5_add_6 (by decide) h (fun h => ?_) (fun h => ?_)
  · refine g_aload_n B d_X5_add_11 rfl rfl ?_
    refine g_get (ci := 5) (k := 0) (v := .ref (Z.1 (o + 1))) B d_X5_add_12 q_in5 rfl (q_Slt ho) ((q_cS ho) _ _) (by decide) w_WaterOthers_Sights_9 rfl rfl ?_
    refine g_aload_n B d_X5_add_15 rfl rfl ?_
    refine g_get (ci := 5) (k := 2) B d_X5_add_16 q_in5 rfl (q_Slt ho) ((q_cS ho) _ _) (by decide) w_WaterOthers_Sights_16 rfl rfl ?_
    refine g_iload_n B d_X5_add_19 rfl rfl ?_
    obtain ⟨h20, h⟩ := q_chk h
    refine g_iast B d_X5_add_20 (q_S1lt ho) (q_cS1 ho) h20 ?_
    refine g_aload_n B d_X5_add_21 rfl rfl ?_
    refine g_get (ci := 5) (k := 1) (v := .ref (Z.1 (o + 2))) B d_X5_add_22 q_in5 rfl (q_Slt ho) ((q_cS ho) _ _) (by decide) w_WaterOthers_Sights_13 rfl rfl ?_
    refine g_aload_n B d_X5_add_25 rfl rfl ?_
    refine g_get (ci := 5) (k := 2) B d_X5_add_26 q_in5 rfl (q_Slt ho) ((q_cS ho) _ _) (by decide) w_WaterOthers_Sights_16 rfl rfl ?_
    refine g_iload_n B d_X5_add_29 rfl rfl ?_
    obtain ⟨h30, h⟩ := q_chk h
    refine g_iast B d_X5_add_30 (q_S2lt ho) (q_cS2 ho) h30 ?_
    refine g_aload_n B d_X5_add_31 rfl rfl ?_
    refine g_dup B d_X5_add_32 rfl ?_
    refine g_get (ci := 5) (k := 2) B d_X5_add_33 q_in5 rfl (q_Slt ho) ((q_cS ho) _ _) (by decide) w_WaterOthers_Sights_16 rfl rfl ?_
    refine g_iconst (v := 1) B d_X5_add_36 (by decide) ?_
    refine g_iadd B d_X5_add_37 ?_
    refine g_put (ci := 5) (k := 2) (v := (((q_w (q_w σ (o + 1) ((σ.1 o 2) : Int32).toNatClampNeg a0) (o + 2) (((q_w σ (o + 1) ((σ.1 o 2) : Int32).toNatClampNeg a0).1 o 2) : Int32).toNatClampNeg a1).1 o 2) + 1)) (ty := .int) B d_X5_add_38 q_in5 rfl q_yk5 q_nm5 (q_Slt ho) (q_cS ho) (by decide) w_WaterOthers_Sights_16 rfl rfl rfl rfl rfl (Nat.le_of_ble_eq_true rfl) (fun _ _ => rfl) ?_
    refine g_iconst (v := 1) B d_X5_add_41 (by decide) ?_
    obtain ⟨rfl, rfl⟩ := q_ps h
    exact g_zret B En d_X5_add_42 (by decide)
  · refine g_iconst (v := 0) B d_X5_add_9 (by decide) ?_
    obtain ⟨rfl, rfl⟩ := q_ps h
    exact g_zret B En d_X5_add_10 (by decide)
