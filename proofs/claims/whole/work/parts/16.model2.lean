def y_X10_backBy : MethodName := ⟨"WaterOthersModel", "backBy", "(II)I"⟩
def y_X10_tripTo : MethodName := ⟨"WaterOthersModel", "tripTo", "(II)I"⟩
def y_X10_trip : MethodName := ⟨"WaterOthersModel", "trip", "(III)I"⟩
def y_X10_again : MethodName := ⟨"WaterOthersModel", "again", "(II)I"⟩
def y_X10_digit : MethodName := ⟨"WaterOthersModel", "digit", "(II)I"⟩
def y_X10_order : MethodName := ⟨"WaterOthersModel", "order", "(III)I"⟩
def y_X10_seen : MethodName := ⟨"WaterOthersModel", "seen", "(II)I"⟩
def y_X10_forget : MethodName := ⟨"WaterOthersModel", "forget", "()I"⟩
def y_X10_cellAt : MethodName := ⟨"WaterOthersModel", "cellAt", "(II)I"⟩
def y_X10_isFit : MethodName := ⟨"WaterOthersModel", "isFit", "(I)Z"⟩
def y_X10_fits : MethodName := ⟨"WaterOthersModel", "fits", "(I)I"⟩
def y_X10_ask : MethodName := ⟨"WaterOthersModel", "ask", "(I)I"⟩
def y_X10_wins : MethodName := ⟨"WaterOthersModel", "wins", "(II)Z"⟩
def y_X10_lengths : MethodName := ⟨"WaterOthersModel", "lengths", "(III)I"⟩
def y_X10_calm : MethodName := ⟨"WaterOthersModel", "calm", "(IIIII)J"⟩
def y_X10_year : MethodName := ⟨"WaterOthersModel", "year", "(III)I"⟩
def y_X10_image : MethodName := ⟨"WaterOthersModel", "image", "(I)I"⟩
def y_X10_restore : MethodName := ⟨"WaterOthersModel", "restore", "(I)I"⟩
def y_X10_told : MethodName := ⟨"WaterOthersModel", "told", "(I)I"⟩
theorem d_X10_backBy_0 : q_dec prog_12_method_34_code 0 (.iload_n 0) 1 1 := ⟨by decide +kernel, rfl⟩
theorem d_X10_backBy_1 : q_dec prog_12_method_34_code 1 (.sipush 243) 3 4 := ⟨by decide +kernel, rfl⟩
theorem d_X10_backBy_4 : q_dec prog_12_method_34_code 4 (.idiv) 1 5 := ⟨by decide +kernel, rfl⟩
theorem d_X10_backBy_5 : q_dec prog_12_method_34_code 5 (.istore_n 2) 1 6 := ⟨by decide +kernel, rfl⟩
theorem d_X10_backBy_6 : q_dec prog_12_method_34_code 6 (.iload_n 0) 1 7 := ⟨by decide +kernel, rfl⟩
theorem d_X10_backBy_7 : q_dec prog_12_method_34_code 7 (.sipush 243) 3 10 := ⟨by decide +kernel, rfl⟩
theorem d_X10_backBy_10 : q_dec prog_12_method_34_code 10 (.irem) 1 11 := ⟨by decide +kernel, rfl⟩
theorem d_X10_backBy_11 : q_dec prog_12_method_34_code 11 (.istore_n 3) 1 12 := ⟨by decide +kernel, rfl⟩
theorem d_X10_backBy_12 : q_dec prog_12_method_34_code 12 (.iconst 0) 1 13 := ⟨by decide +kernel, rfl⟩
theorem d_X10_backBy_13 : q_dec prog_12_method_34_code 13 (.istore 4) 2 15 := ⟨by decide +kernel, rfl⟩
theorem d_X10_backBy_15 : q_dec prog_12_method_34_code 15 (.iload 4) 2 17 := ⟨by decide +kernel, rfl⟩
theorem d_X10_backBy_17 : q_dec prog_12_method_34_code 17 (.iload_n 1) 1 18 := ⟨by decide +kernel, rfl⟩
theorem d_X10_backBy_18 : q_dec prog_12_method_34_code 18 (.if_icmp .ge 39) 3 21 := ⟨by decide +kernel, rfl⟩
theorem d_X10_backBy_21 : q_dec prog_12_method_34_code 21 (.iload_n 2) 1 22 := ⟨by decide +kernel, rfl⟩
theorem d_X10_backBy_22 : q_dec prog_12_method_34_code 22 (.iload_n 3) 1 23 := ⟨by decide +kernel, rfl⟩
theorem d_X10_backBy_23 : q_dec prog_12_method_34_code 23 (.iconst 3) 1 24 := ⟨by decide +kernel, rfl⟩
theorem d_X10_backBy_24 : q_dec prog_12_method_34_code 24 (.irem) 1 25 := ⟨by decide +kernel, rfl⟩
theorem d_X10_backBy_25 : q_dec prog_12_method_34_code 25 (.iconst 1) 1 26 := ⟨by decide +kernel, rfl⟩
theorem d_X10_backBy_26 : q_dec prog_12_method_34_code 26 (.if_icmp .ne 7) 3 29 := ⟨by decide +kernel, rfl⟩
theorem d_X10_backBy_29 : q_dec prog_12_method_34_code 29 (.iconst (-1)) 1 30 := ⟨by decide +kernel, rfl⟩
theorem d_X10_backBy_30 : q_dec prog_12_method_34_code 30 (.goto 15) 3 33 := ⟨by decide +kernel, rfl⟩
theorem d_X10_backBy_33 : q_dec prog_12_method_34_code 33 (.iload_n 3) 1 34 := ⟨by decide +kernel, rfl⟩
theorem d_X10_backBy_34 : q_dec prog_12_method_34_code 34 (.iconst 3) 1 35 := ⟨by decide +kernel, rfl⟩
theorem d_X10_backBy_35 : q_dec prog_12_method_34_code 35 (.irem) 1 36 := ⟨by decide +kernel, rfl⟩
theorem d_X10_backBy_36 : q_dec prog_12_method_34_code 36 (.iconst 2) 1 37 := ⟨by decide +kernel, rfl⟩
theorem d_X10_backBy_37 : q_dec prog_12_method_34_code 37 (.if_icmp .ne 7) 3 40 := ⟨by decide +kernel, rfl⟩
theorem d_X10_backBy_40 : q_dec prog_12_method_34_code 40 (.iconst 1) 1 41 := ⟨by decide +kernel, rfl⟩
theorem d_X10_backBy_41 : q_dec prog_12_method_34_code 41 (.goto 4) 3 44 := ⟨by decide +kernel, rfl⟩
theorem d_X10_backBy_44 : q_dec prog_12_method_34_code 44 (.iconst 0) 1 45 := ⟨by decide +kernel, rfl⟩
theorem d_X10_backBy_45 : q_dec prog_12_method_34_code 45 (.isub) 1 46 := ⟨by decide +kernel, rfl⟩
theorem d_X10_backBy_46 : q_dec prog_12_method_34_code 46 (.istore_n 2) 1 47 := ⟨by decide +kernel, rfl⟩
theorem d_X10_backBy_47 : q_dec prog_12_method_34_code 47 (.iload_n 3) 1 48 := ⟨by decide +kernel, rfl⟩
theorem d_X10_backBy_48 : q_dec prog_12_method_34_code 48 (.iconst 3) 1 49 := ⟨by decide +kernel, rfl⟩
theorem d_X10_backBy_49 : q_dec prog_12_method_34_code 49 (.idiv) 1 50 := ⟨by decide +kernel, rfl⟩
theorem d_X10_backBy_50 : q_dec prog_12_method_34_code 50 (.istore_n 3) 1 51 := ⟨by decide +kernel, rfl⟩
theorem d_X10_backBy_51 : q_dec prog_12_method_34_code 51 (.iinc 4 1) 3 54 := ⟨by decide +kernel, rfl⟩
theorem d_X10_backBy_54 : q_dec prog_12_method_34_code 54 (.goto (-39)) 3 57 := ⟨by decide +kernel, rfl⟩
theorem d_X10_backBy_57 : q_dec prog_12_method_34_code 57 (.iload_n 2) 1 58 := ⟨by decide +kernel, rfl⟩
theorem d_X10_backBy_58 : q_dec prog_12_method_34_code 58 (.ireturn) 1 59 := ⟨by decide +kernel, rfl⟩
theorem m_X10_backBy : q_wS y_X10_backBy prog_12_method_34_code 5 (some .int) 2 := ⟨q_mem 886 (by decide +kernel) (by decide +kernel), q_mem 885 (by decide +kernel) (by decide +kernel), q_mem 11 (by decide +kernel) (by decide +kernel), by decide +kernel⟩
theorem d_X10_tripTo_0 : q_dec prog_12_method_35_code 0 (.aload_n 0) 1 1 := ⟨by decide +kernel, rfl⟩
theorem d_X10_tripTo_1 : q_dec prog_12_method_35_code 1 (.iload_n 1) 1 2 := ⟨by decide +kernel, rfl⟩
theorem d_X10_tripTo_2 : q_dec prog_12_method_35_code 2 (.invokevirtual 93) 3 5 := ⟨by decide +kernel, rfl⟩
theorem d_X10_tripTo_5 : q_dec prog_12_method_35_code 5 (.ifCond .ne 17) 3 8 := ⟨by decide +kernel, rfl⟩
theorem d_X10_tripTo_8 : q_dec prog_12_method_35_code 8 (.aload_n 0) 1 9 := ⟨by decide +kernel, rfl⟩
theorem d_X10_tripTo_9 : q_dec prog_12_method_35_code 9 (.getfield 13) 3 12 := ⟨by decide +kernel, rfl⟩
theorem d_X10_tripTo_12 : q_dec prog_12_method_35_code 12 (.bipush 48) 2 14 := ⟨by decide +kernel, rfl⟩
theorem d_X10_tripTo_14 : q_dec prog_12_method_35_code 14 (.iaload) 1 15 := ⟨by decide +kernel, rfl⟩
theorem d_X10_tripTo_15 : q_dec prog_12_method_35_code 15 (.ifCond .ne 7) 3 18 := ⟨by decide +kernel, rfl⟩
theorem d_X10_tripTo_18 : q_dec prog_12_method_35_code 18 (.iconst 1) 1 19 := ⟨by decide +kernel, rfl⟩
theorem d_X10_tripTo_19 : q_dec prog_12_method_35_code 19 (.goto 4) 3 22 := ⟨by decide +kernel, rfl⟩
theorem d_X10_tripTo_22 : q_dec prog_12_method_35_code 22 (.iconst 0) 1 23 := ⟨by decide +kernel, rfl⟩
theorem d_X10_tripTo_23 : q_dec prog_12_method_35_code 23 (.istore_n 3) 1 24 := ⟨by decide +kernel, rfl⟩
theorem d_X10_tripTo_24 : q_dec prog_12_method_35_code 24 (.iconst 0) 1 25 := ⟨by decide +kernel, rfl⟩
theorem d_X10_tripTo_25 : q_dec prog_12_method_35_code 25 (.istore 4) 2 27 := ⟨by decide +kernel, rfl⟩
theorem d_X10_tripTo_27 : q_dec prog_12_method_35_code 27 (.iload 4) 2 29 := ⟨by decide +kernel, rfl⟩
theorem d_X10_tripTo_29 : q_dec prog_12_method_35_code 29 (.sipush 4860) 3 32 := ⟨by decide +kernel, rfl⟩
theorem d_X10_tripTo_32 : q_dec prog_12_method_35_code 32 (.if_icmp .ge 17) 3 35 := ⟨by decide +kernel, rfl⟩
theorem d_X10_tripTo_35 : q_dec prog_12_method_35_code 35 (.aload_n 0) 1 36 := ⟨by decide +kernel, rfl⟩
theorem d_X10_tripTo_36 : q_dec prog_12_method_35_code 36 (.getfield 29) 3 39 := ⟨by decide +kernel, rfl⟩
theorem d_X10_tripTo_39 : q_dec prog_12_method_35_code 39 (.iload 4) 2 41 := ⟨by decide +kernel, rfl⟩
theorem d_X10_tripTo_41 : q_dec prog_12_method_35_code 41 (.iconst (-1)) 1 42 := ⟨by decide +kernel, rfl⟩
theorem d_X10_tripTo_42 : q_dec prog_12_method_35_code 42 (.iastore) 1 43 := ⟨by decide +kernel, rfl⟩
theorem d_X10_tripTo_43 : q_dec prog_12_method_35_code 43 (.iinc 4 1) 3 46 := ⟨by decide +kernel, rfl⟩
theorem d_X10_tripTo_46 : q_dec prog_12_method_35_code 46 (.goto (-19)) 3 49 := ⟨by decide +kernel, rfl⟩
theorem d_X10_tripTo_49 : q_dec prog_12_method_35_code 49 (.iconst 0) 1 50 := ⟨by decide +kernel, rfl⟩
theorem d_X10_tripTo_50 : q_dec prog_12_method_35_code 50 (.istore 4) 2 52 := ⟨by decide +kernel, rfl⟩
theorem d_X10_tripTo_52 : q_dec prog_12_method_35_code 52 (.iconst 4) 1 53 := ⟨by decide +kernel, rfl⟩
theorem d_X10_tripTo_53 : q_dec prog_12_method_35_code 53 (.istore 5) 2 55 := ⟨by decide +kernel, rfl⟩
theorem d_X10_tripTo_55 : q_dec prog_12_method_35_code 55 (.iload 5) 2 57 := ⟨by decide +kernel, rfl⟩
theorem d_X10_tripTo_57 : q_dec prog_12_method_35_code 57 (.ifCond .lt 64) 3 60 := ⟨by decide +kernel, rfl⟩
theorem d_X10_tripTo_60 : q_dec prog_12_method_35_code 60 (.aload_n 0) 1 61 := ⟨by decide +kernel, rfl⟩
theorem d_X10_tripTo_61 : q_dec prog_12_method_35_code 61 (.getfield 13) 3 64 := ⟨by decide +kernel, rfl⟩
theorem d_X10_tripTo_64 : q_dec prog_12_method_35_code 64 (.bipush 6) 2 66 := ⟨by decide +kernel, rfl⟩
theorem d_X10_tripTo_66 : q_dec prog_12_method_35_code 66 (.iload_n 1) 1 67 := ⟨by decide +kernel, rfl⟩
theorem d_X10_tripTo_67 : q_dec prog_12_method_35_code 67 (.imul) 1 68 := ⟨by decide +kernel, rfl⟩
theorem d_X10_tripTo_68 : q_dec prog_12_method_35_code 68 (.iload 5) 2 70 := ⟨by decide +kernel, rfl⟩
theorem d_X10_tripTo_70 : q_dec prog_12_method_35_code 70 (.iadd) 1 71 := ⟨by decide +kernel, rfl⟩
theorem d_X10_tripTo_71 : q_dec prog_12_method_35_code 71 (.iaload) 1 72 := ⟨by decide +kernel, rfl⟩
theorem d_X10_tripTo_72 : q_dec prog_12_method_35_code 72 (.aload_n 0) 1 73 := ⟨by decide +kernel, rfl⟩
theorem d_X10_tripTo_73 : q_dec prog_12_method_35_code 73 (.getfield 13) 3 76 := ⟨by decide +kernel, rfl⟩
theorem d_X10_tripTo_76 : q_dec prog_12_method_35_code 76 (.bipush 6) 2 78 := ⟨by decide +kernel, rfl⟩
theorem d_X10_tripTo_78 : q_dec prog_12_method_35_code 78 (.iload_n 1) 1 79 := ⟨by decide +kernel, rfl⟩
theorem d_X10_tripTo_79 : q_dec prog_12_method_35_code 79 (.imul) 1 80 := ⟨by decide +kernel, rfl⟩
theorem d_X10_tripTo_80 : q_dec prog_12_method_35_code 80 (.iload 5) 2 82 := ⟨by decide +kernel, rfl⟩
theorem d_X10_tripTo_82 : q_dec prog_12_method_35_code 82 (.iadd) 1 83 := ⟨by decide +kernel, rfl⟩
theorem d_X10_tripTo_83 : q_dec prog_12_method_35_code 83 (.iconst 1) 1 84 := ⟨by decide +kernel, rfl⟩
theorem d_X10_tripTo_84 : q_dec prog_12_method_35_code 84 (.iadd) 1 85 := ⟨by decide +kernel, rfl⟩
theorem d_X10_tripTo_85 : q_dec prog_12_method_35_code 85 (.iaload) 1 86 := ⟨by decide +kernel, rfl⟩
theorem d_X10_tripTo_86 : q_dec prog_12_method_35_code 86 (.isub) 1 87 := ⟨by decide +kernel, rfl⟩
theorem d_X10_tripTo_87 : q_dec prog_12_method_35_code 87 (.istore 6) 2 89 := ⟨by decide +kernel, rfl⟩
theorem d_X10_tripTo_89 : q_dec prog_12_method_35_code 89 (.iconst 3) 1 90 := ⟨by decide +kernel, rfl⟩
theorem d_X10_tripTo_90 : q_dec prog_12_method_35_code 90 (.iload 4) 2 92 := ⟨by decide +kernel, rfl⟩
theorem d_X10_tripTo_92 : q_dec prog_12_method_35_code 92 (.imul) 1 93 := ⟨by decide +kernel, rfl⟩
theorem d_X10_tripTo_93 : q_dec prog_12_method_35_code 93 (.iload 6) 2 95 := ⟨by decide +kernel, rfl⟩
theorem d_X10_tripTo_95 : q_dec prog_12_method_35_code 95 (.ifCond .ge 7) 3 98 := ⟨by decide +kernel, rfl⟩
theorem d_X10_tripTo_98 : q_dec prog_12_method_35_code 98 (.iconst 1) 1 99 := ⟨by decide +kernel, rfl⟩
theorem d_X10_tripTo_99 : q_dec prog_12_method_35_code 99 (.goto 13) 3 102 := ⟨by decide +kernel, rfl⟩
theorem d_X10_tripTo_102 : q_dec prog_12_method_35_code 102 (.iload 6) 2 104 := ⟨by decide +kernel, rfl⟩
theorem d_X10_tripTo_104 : q_dec prog_12_method_35_code 104 (.ifCond .le 7) 3 107 := ⟨by decide +kernel, rfl⟩
theorem d_X10_tripTo_107 : q_dec prog_12_method_35_code 107 (.iconst 2) 1 108 := ⟨by decide +kernel, rfl⟩
theorem d_X10_tripTo_108 : q_dec prog_12_method_35_code 108 (.goto 4) 3 111 := ⟨by decide +kernel, rfl⟩
theorem d_X10_tripTo_111 : q_dec prog_12_method_35_code 111 (.iconst 0) 1 112 := ⟨by decide +kernel, rfl⟩
theorem d_X10_tripTo_112 : q_dec prog_12_method_35_code 112 (.iadd) 1 113 := ⟨by decide +kernel, rfl⟩
theorem d_X10_tripTo_113 : q_dec prog_12_method_35_code 113 (.istore 4) 2 115 := ⟨by decide +kernel, rfl⟩
theorem d_X10_tripTo_115 : q_dec prog_12_method_35_code 115 (.iinc 5 (-1)) 3 118 := ⟨by decide +kernel, rfl⟩
theorem d_X10_tripTo_118 : q_dec prog_12_method_35_code 118 (.goto (-63)) 3 121 := ⟨by decide +kernel, rfl⟩
theorem d_X10_tripTo_121 : q_dec prog_12_method_35_code 121 (.sipush 243) 3 124 := ⟨by decide +kernel, rfl⟩
theorem d_X10_tripTo_124 : q_dec prog_12_method_35_code 124 (.aload_n 0) 1 125 := ⟨by decide +kernel, rfl⟩
theorem d_X10_tripTo_125 : q_dec prog_12_method_35_code 125 (.getfield 13) 3 128 := ⟨by decide +kernel, rfl⟩
theorem d_X10_tripTo_128 : q_dec prog_12_method_35_code 128 (.bipush 6) 2 130 := ⟨by decide +kernel, rfl⟩
theorem d_X10_tripTo_130 : q_dec prog_12_method_35_code 130 (.iload_n 1) 1 131 := ⟨by decide +kernel, rfl⟩
theorem d_X10_tripTo_131 : q_dec prog_12_method_35_code 131 (.imul) 1 132 := ⟨by decide +kernel, rfl⟩
theorem d_X10_tripTo_132 : q_dec prog_12_method_35_code 132 (.iaload) 1 133 := ⟨by decide +kernel, rfl⟩
theorem d_X10_tripTo_133 : q_dec prog_12_method_35_code 133 (.imul) 1 134 := ⟨by decide +kernel, rfl⟩
theorem d_X10_tripTo_134 : q_dec prog_12_method_35_code 134 (.iload 4) 2 136 := ⟨by decide +kernel, rfl⟩
theorem d_X10_tripTo_136 : q_dec prog_12_method_35_code 136 (.iadd) 1 137 := ⟨by decide +kernel, rfl⟩
theorem d_X10_tripTo_137 : q_dec prog_12_method_35_code 137 (.istore 5) 2 139 := ⟨by decide +kernel, rfl⟩
theorem d_X10_tripTo_139 : q_dec prog_12_method_35_code 139 (.aload_n 0) 1 140 := ⟨by decide +kernel, rfl⟩
theorem d_X10_tripTo_140 : q_dec prog_12_method_35_code 140 (.getfield 29) 3 143 := ⟨by decide +kernel, rfl⟩
theorem d_X10_tripTo_143 : q_dec prog_12_method_35_code 143 (.iload 5) 2 145 := ⟨by decide +kernel, rfl⟩
theorem d_X10_tripTo_145 : q_dec prog_12_method_35_code 145 (.iconst 0) 1 146 := ⟨by decide +kernel, rfl⟩
theorem d_X10_tripTo_146 : q_dec prog_12_method_35_code 146 (.iastore) 1 147 := ⟨by decide +kernel, rfl⟩
theorem d_X10_tripTo_147 : q_dec prog_12_method_35_code 147 (.aload_n 0) 1 148 := ⟨by decide +kernel, rfl⟩
theorem d_X10_tripTo_148 : q_dec prog_12_method_35_code 148 (.getfield 32) 3 151 := ⟨by decide +kernel, rfl⟩
theorem d_X10_tripTo_151 : q_dec prog_12_method_35_code 151 (.iconst 0) 1 152 := ⟨by decide +kernel, rfl⟩
theorem d_X10_tripTo_152 : q_dec prog_12_method_35_code 152 (.iload 5) 2 154 := ⟨by decide +kernel, rfl⟩
theorem d_X10_tripTo_154 : q_dec prog_12_method_35_code 154 (.iastore) 1 155 := ⟨by decide +kernel, rfl⟩
theorem d_X10_tripTo_155 : q_dec prog_12_method_35_code 155 (.iconst 1) 1 156 := ⟨by decide +kernel, rfl⟩
theorem d_X10_tripTo_156 : q_dec prog_12_method_35_code 156 (.istore 6) 2 158 := ⟨by decide +kernel, rfl⟩
theorem d_X10_tripTo_158 : q_dec prog_12_method_35_code 158 (.iconst (-1)) 1 159 := ⟨by decide +kernel, rfl⟩
theorem d_X10_tripTo_159 : q_dec prog_12_method_35_code 159 (.istore 7) 2 161 := ⟨by decide +kernel, rfl⟩
theorem d_X10_tripTo_161 : q_dec prog_12_method_35_code 161 (.iconst 0) 1 162 := ⟨by decide +kernel, rfl⟩
theorem d_X10_tripTo_162 : q_dec prog_12_method_35_code 162 (.istore 8) 2 164 := ⟨by decide +kernel, rfl⟩
theorem d_X10_tripTo_164 : q_dec prog_12_method_35_code 164 (.iload 8) 2 166 := ⟨by decide +kernel, rfl⟩
theorem d_X10_tripTo_166 : q_dec prog_12_method_35_code 166 (.iload 6) 2 168 := ⟨by decide +kernel, rfl⟩
theorem d_X10_tripTo_168 : q_dec prog_12_method_35_code 168 (.if_icmp .ge 236) 3 171 := ⟨by decide +kernel, rfl⟩
theorem d_X10_tripTo_171 : q_dec prog_12_method_35_code 171 (.aload_n 0) 1 172 := ⟨by decide +kernel, rfl⟩
theorem d_X10_tripTo_172 : q_dec prog_12_method_35_code 172 (.getfield 32) 3 175 := ⟨by decide +kernel, rfl⟩
theorem d_X10_tripTo_175 : q_dec prog_12_method_35_code 175 (.iload 8) 2 177 := ⟨by decide +kernel, rfl⟩
theorem d_X10_tripTo_177 : q_dec prog_12_method_35_code 177 (.iaload) 1 178 := ⟨by decide +kernel, rfl⟩
theorem d_X10_tripTo_178 : q_dec prog_12_method_35_code 178 (.istore 9) 2 180 := ⟨by decide +kernel, rfl⟩
theorem d_X10_tripTo_180 : q_dec prog_12_method_35_code 180 (.iload 9) 2 182 := ⟨by decide +kernel, rfl⟩
theorem d_X10_tripTo_182 : q_dec prog_12_method_35_code 182 (.sipush 243) 3 185 := ⟨by decide +kernel, rfl⟩
theorem d_X10_tripTo_185 : q_dec prog_12_method_35_code 185 (.idiv) 1 186 := ⟨by decide +kernel, rfl⟩
theorem d_X10_tripTo_186 : q_dec prog_12_method_35_code 186 (.istore 10) 2 188 := ⟨by decide +kernel, rfl⟩
theorem d_X10_tripTo_188 : q_dec prog_12_method_35_code 188 (.aload_n 0) 1 189 := ⟨by decide +kernel, rfl⟩
theorem d_X10_tripTo_189 : q_dec prog_12_method_35_code 189 (.getfield 29) 3 192 := ⟨by decide +kernel, rfl⟩
theorem d_X10_tripTo_192 : q_dec prog_12_method_35_code 192 (.iload 9) 2 194 := ⟨by decide +kernel, rfl⟩
theorem d_X10_tripTo_194 : q_dec prog_12_method_35_code 194 (.iaload) 1 195 := ⟨by decide +kernel, rfl⟩
theorem d_X10_tripTo_195 : q_dec prog_12_method_35_code 195 (.bipush 10) 2 197 := ⟨by decide +kernel, rfl⟩
theorem d_X10_tripTo_197 : q_dec prog_12_method_35_code 197 (.idiv) 1 198 := ⟨by decide +kernel, rfl⟩
theorem d_X10_tripTo_198 : q_dec prog_12_method_35_code 198 (.istore 11) 2 200 := ⟨by decide +kernel, rfl⟩
theorem d_X10_tripTo_200 : q_dec prog_12_method_35_code 200 (.iload 10) 2 202 := ⟨by decide +kernel, rfl⟩
theorem d_X10_tripTo_202 : q_dec prog_12_method_35_code 202 (.iload_n 2) 1 203 := ⟨by decide +kernel, rfl⟩
theorem d_X10_tripTo_203 : q_dec prog_12_method_35_code 203 (.if_icmp .ne 16) 3 206 := ⟨by decide +kernel, rfl⟩
theorem d_X10_tripTo_206 : q_dec prog_12_method_35_code 206 (.iload 7) 2 208 := ⟨by decide +kernel, rfl⟩
theorem d_X10_tripTo_208 : q_dec prog_12_method_35_code 208 (.ifCond .ge 11) 3 211 := ⟨by decide +kernel, rfl⟩
theorem d_X10_tripTo_211 : q_dec prog_12_method_35_code 211 (.aload_n 0) 1 212 := ⟨by decide +kernel, rfl⟩
theorem d_X10_tripTo_212 : q_dec prog_12_method_35_code 212 (.getfield 29) 3 215 := ⟨by decide +kernel, rfl⟩
theorem d_X10_tripTo_215 : q_dec prog_12_method_35_code 215 (.iload 9) 2 217 := ⟨by decide +kernel, rfl⟩
theorem d_X10_tripTo_217 : q_dec prog_12_method_35_code 217 (.iaload) 1 218 := ⟨by decide +kernel, rfl⟩
theorem d_X10_tripTo_218 : q_dec prog_12_method_35_code 218 (.ireturn) 1 219 := ⟨by decide +kernel, rfl⟩
theorem d_X10_tripTo_219 : q_dec prog_12_method_35_code 219 (.iconst 0) 1 220 := ⟨by decide +kernel, rfl⟩
theorem d_X10_tripTo_220 : q_dec prog_12_method_35_code 220 (.istore 12) 2 222 := ⟨by decide +kernel, rfl⟩
theorem d_X10_tripTo_222 : q_dec prog_12_method_35_code 222 (.iload 12) 2 224 := ⟨by decide +kernel, rfl⟩
theorem d_X10_tripTo_224 : q_dec prog_12_method_35_code 224 (.iconst 3) 1 225 := ⟨by decide +kernel, rfl⟩
theorem d_X10_tripTo_225 : q_dec prog_12_method_35_code 225 (.if_icmp .ge 173) 3 228 := ⟨by decide +kernel, rfl⟩
theorem d_X10_tripTo_228 : q_dec prog_12_method_35_code 228 (.iload 10) 2 230 := ⟨by decide +kernel, rfl⟩
theorem d_X10_tripTo_230 : q_dec prog_12_method_35_code 230 (.iload 12) 2 232 := ⟨by decide +kernel, rfl⟩
theorem d_X10_tripTo_232 : q_dec prog_12_method_35_code 232 (.iconst 1) 1 233 := ⟨by decide +kernel, rfl⟩
theorem d_X10_tripTo_233 : q_dec prog_12_method_35_code 233 (.if_icmp .ne 7) 3 236 := ⟨by decide +kernel, rfl⟩
theorem d_X10_tripTo_236 : q_dec prog_12_method_35_code 236 (.iconst (-1)) 1 237 := ⟨by decide +kernel, rfl⟩
theorem d_X10_tripTo_237 : q_dec prog_12_method_35_code 237 (.goto 14) 3 240 := ⟨by decide +kernel, rfl⟩
theorem d_X10_tripTo_240 : q_dec prog_12_method_35_code 240 (.iload 12) 2 242 := ⟨by decide +kernel, rfl⟩
theorem d_X10_tripTo_242 : q_dec prog_12_method_35_code 242 (.iconst 2) 1 243 := ⟨by decide +kernel, rfl⟩
theorem d_X10_tripTo_243 : q_dec prog_12_method_35_code 243 (.if_icmp .ne 7) 3 246 := ⟨by decide +kernel, rfl⟩
theorem d_X10_tripTo_246 : q_dec prog_12_method_35_code 246 (.iconst 1) 1 247 := ⟨by decide +kernel, rfl⟩
theorem d_X10_tripTo_247 : q_dec prog_12_method_35_code 247 (.goto 4) 3 250 := ⟨by decide +kernel, rfl⟩
theorem d_X10_tripTo_250 : q_dec prog_12_method_35_code 250 (.iconst 0) 1 251 := ⟨by decide +kernel, rfl⟩
theorem d_X10_tripTo_251 : q_dec prog_12_method_35_code 251 (.iadd) 1 252 := ⟨by decide +kernel, rfl⟩
theorem d_X10_tripTo_252 : q_dec prog_12_method_35_code 252 (.istore 13) 2 254 := ⟨by decide +kernel, rfl⟩
theorem d_X10_tripTo_254 : q_dec prog_12_method_35_code 254 (.sipush 243) 3 257 := ⟨by decide +kernel, rfl⟩
theorem d_X10_tripTo_257 : q_dec prog_12_method_35_code 257 (.iload 13) 2 259 := ⟨by decide +kernel, rfl⟩
theorem d_X10_tripTo_259 : q_dec prog_12_method_35_code 259 (.imul) 1 260 := ⟨by decide +kernel, rfl⟩
theorem d_X10_tripTo_260 : q_dec prog_12_method_35_code 260 (.iload 9) 2 262 := ⟨by decide +kernel, rfl⟩
theorem d_X10_tripTo_262 : q_dec prog_12_method_35_code 262 (.bipush 81) 2 264 := ⟨by decide +kernel, rfl⟩
theorem d_X10_tripTo_264 : q_dec prog_12_method_35_code 264 (.irem) 1 265 := ⟨by decide +kernel, rfl⟩
theorem d_X10_tripTo_265 : q_dec prog_12_method_35_code 265 (.iconst 3) 1 266 := ⟨by decide +kernel, rfl⟩
theorem d_X10_tripTo_266 : q_dec prog_12_method_35_code 266 (.imul) 1 267 := ⟨by decide +kernel, rfl⟩
theorem d_X10_tripTo_267 : q_dec prog_12_method_35_code 267 (.iadd) 1 268 := ⟨by decide +kernel, rfl⟩
theorem d_X10_tripTo_268 : q_dec prog_12_method_35_code 268 (.iload 12) 2 270 := ⟨by decide +kernel, rfl⟩
theorem d_X10_tripTo_270 : q_dec prog_12_method_35_code 270 (.iadd) 1 271 := ⟨by decide +kernel, rfl⟩
theorem d_X10_tripTo_271 : q_dec prog_12_method_35_code 271 (.istore 14) 2 273 := ⟨by decide +kernel, rfl⟩
theorem d_X10_tripTo_273 : q_dec prog_12_method_35_code 273 (.iload 13) 2 275 := ⟨by decide +kernel, rfl⟩
theorem d_X10_tripTo_275 : q_dec prog_12_method_35_code 275 (.invokestatic 66) 3 278 := ⟨by decide +kernel, rfl⟩
theorem d_X10_tripTo_278 : q_dec prog_12_method_35_code 278 (.istore 15) 2 280 := ⟨by decide +kernel, rfl⟩
theorem d_X10_tripTo_280 : q_dec prog_12_method_35_code 280 (.iload 15) 2 282 := ⟨by decide +kernel, rfl⟩
theorem d_X10_tripTo_282 : q_dec prog_12_method_35_code 282 (.ifCond .eq 45) 3 285 := ⟨by decide +kernel, rfl⟩
theorem d_X10_tripTo_285 : q_dec prog_12_method_35_code 285 (.iload 12) 2 287 := ⟨by decide +kernel, rfl⟩
theorem d_X10_tripTo_287 : q_dec prog_12_method_35_code 287 (.ifCond .eq 36) 3 290 := ⟨by decide +kernel, rfl⟩
theorem d_X10_tripTo_290 : q_dec prog_12_method_35_code 290 (.iload_n 3) 1 291 := ⟨by decide +kernel, rfl⟩
theorem d_X10_tripTo_291 : q_dec prog_12_method_35_code 291 (.ifCond .eq 32) 3 294 := ⟨by decide +kernel, rfl⟩
theorem d_X10_tripTo_294 : q_dec prog_12_method_35_code 294 (.iload 13) 2 296 := ⟨by decide +kernel, rfl⟩
theorem d_X10_tripTo_296 : q_dec prog_12_method_35_code 296 (.iload 14) 2 298 := ⟨by decide +kernel, rfl⟩
theorem d_X10_tripTo_298 : q_dec prog_12_method_35_code 298 (.aload_n 0) 1 299 := ⟨by decide +kernel, rfl⟩
theorem d_X10_tripTo_299 : q_dec prog_12_method_35_code 299 (.getfield 16) 3 302 := ⟨by decide +kernel, rfl⟩
theorem d_X10_tripTo_302 : q_dec prog_12_method_35_code 302 (.iload_n 1) 1 303 := ⟨by decide +kernel, rfl⟩
theorem d_X10_tripTo_303 : q_dec prog_12_method_35_code 303 (.iaload) 1 304 := ⟨by decide +kernel, rfl⟩
theorem d_X10_tripTo_304 : q_dec prog_12_method_35_code 304 (.invokestatic 144) 3 307 := ⟨by decide +kernel, rfl⟩
theorem d_X10_tripTo_307 : q_dec prog_12_method_35_code 307 (.isub) 1 308 := ⟨by decide +kernel, rfl⟩
theorem d_X10_tripTo_308 : q_dec prog_12_method_35_code 308 (.aload_n 0) 1 309 := ⟨by decide +kernel, rfl⟩
theorem d_X10_tripTo_309 : q_dec prog_12_method_35_code 309 (.getfield 19) 3 312 := ⟨by decide +kernel, rfl⟩
theorem d_X10_tripTo_312 : q_dec prog_12_method_35_code 312 (.ineg) 1 313 := ⟨by decide +kernel, rfl⟩
theorem d_X10_tripTo_313 : q_dec prog_12_method_35_code 313 (.aload_n 0) 1 314 := ⟨by decide +kernel, rfl⟩
theorem d_X10_tripTo_314 : q_dec prog_12_method_35_code 314 (.getfield 19) 3 317 := ⟨by decide +kernel, rfl⟩
theorem d_X10_tripTo_317 : q_dec prog_12_method_35_code 317 (.invokestatic 55) 3 320 := ⟨by decide +kernel, rfl⟩
theorem d_X10_tripTo_320 : q_dec prog_12_method_35_code 320 (.ifCond .eq 7) 3 323 := ⟨by decide +kernel, rfl⟩
theorem d_X10_tripTo_323 : q_dec prog_12_method_35_code 323 (.iconst 1) 1 324 := ⟨by decide +kernel, rfl⟩
theorem d_X10_tripTo_324 : q_dec prog_12_method_35_code 324 (.goto 4) 3 327 := ⟨by decide +kernel, rfl⟩
theorem d_X10_tripTo_327 : q_dec prog_12_method_35_code 327 (.iconst 0) 1 328 := ⟨by decide +kernel, rfl⟩
theorem d_X10_tripTo_328 : q_dec prog_12_method_35_code 328 (.istore 15) 2 330 := ⟨by decide +kernel, rfl⟩
theorem d_X10_tripTo_330 : q_dec prog_12_method_35_code 330 (.iload 15) 2 332 := ⟨by decide +kernel, rfl⟩
theorem d_X10_tripTo_332 : q_dec prog_12_method_35_code 332 (.ifCond .eq 60) 3 335 := ⟨by decide +kernel, rfl⟩
theorem d_X10_tripTo_335 : q_dec prog_12_method_35_code 335 (.aload_n 0) 1 336 := ⟨by decide +kernel, rfl⟩
theorem d_X10_tripTo_336 : q_dec prog_12_method_35_code 336 (.getfield 29) 3 339 := ⟨by decide +kernel, rfl⟩
theorem d_X10_tripTo_339 : q_dec prog_12_method_35_code 339 (.iload 14) 2 341 := ⟨by decide +kernel, rfl⟩
theorem d_X10_tripTo_341 : q_dec prog_12_method_35_code 341 (.iaload) 1 342 := ⟨by decide +kernel, rfl⟩
theorem d_X10_tripTo_342 : q_dec prog_12_method_35_code 342 (.ifCond .ge 50) 3 345 := ⟨by decide +kernel, rfl⟩
theorem d_X10_tripTo_345 : q_dec prog_12_method_35_code 345 (.aload_n 0) 1 346 := ⟨by decide +kernel, rfl⟩
theorem d_X10_tripTo_346 : q_dec prog_12_method_35_code 346 (.getfield 29) 3 349 := ⟨by decide +kernel, rfl⟩
theorem d_X10_tripTo_349 : q_dec prog_12_method_35_code 349 (.iload 14) 2 351 := ⟨by decide +kernel, rfl⟩
theorem d_X10_tripTo_351 : q_dec prog_12_method_35_code 351 (.bipush 10) 2 353 := ⟨by decide +kernel, rfl⟩
theorem d_X10_tripTo_353 : q_dec prog_12_method_35_code 353 (.iload 11) 2 355 := ⟨by decide +kernel, rfl⟩
theorem d_X10_tripTo_355 : q_dec prog_12_method_35_code 355 (.iconst 1) 1 356 := ⟨by decide +kernel, rfl⟩
theorem d_X10_tripTo_356 : q_dec prog_12_method_35_code 356 (.iadd) 1 357 := ⟨by decide +kernel, rfl⟩
theorem d_X10_tripTo_357 : q_dec prog_12_method_35_code 357 (.imul) 1 358 := ⟨by decide +kernel, rfl⟩
theorem d_X10_tripTo_358 : q_dec prog_12_method_35_code 358 (.iload 11) 2 360 := ⟨by decide +kernel, rfl⟩
theorem d_X10_tripTo_360 : q_dec prog_12_method_35_code 360 (.ifCond .ne 8) 3 363 := ⟨by decide +kernel, rfl⟩
theorem d_X10_tripTo_363 : q_dec prog_12_method_35_code 363 (.iload 12) 2 365 := ⟨by decide +kernel, rfl⟩
theorem d_X10_tripTo_365 : q_dec prog_12_method_35_code 365 (.goto 13) 3 368 := ⟨by decide +kernel, rfl⟩
theorem d_X10_tripTo_368 : q_dec prog_12_method_35_code 368 (.aload_n 0) 1 369 := ⟨by decide +kernel, rfl⟩
theorem d_X10_tripTo_369 : q_dec prog_12_method_35_code 369 (.getfield 29) 3 372 := ⟨by decide +kernel, rfl⟩
theorem d_X10_tripTo_372 : q_dec prog_12_method_35_code 372 (.iload 9) 2 374 := ⟨by decide +kernel, rfl⟩
theorem d_X10_tripTo_374 : q_dec prog_12_method_35_code 374 (.iaload) 1 375 := ⟨by decide +kernel, rfl⟩
theorem d_X10_tripTo_375 : q_dec prog_12_method_35_code 375 (.bipush 10) 2 377 := ⟨by decide +kernel, rfl⟩
theorem d_X10_tripTo_377 : q_dec prog_12_method_35_code 377 (.irem) 1 378 := ⟨by decide +kernel, rfl⟩
theorem d_X10_tripTo_378 : q_dec prog_12_method_35_code 378 (.iadd) 1 379 := ⟨by decide +kernel, rfl⟩
theorem d_X10_tripTo_379 : q_dec prog_12_method_35_code 379 (.iastore) 1 380 := ⟨by decide +kernel, rfl⟩
theorem d_X10_tripTo_380 : q_dec prog_12_method_35_code 380 (.aload_n 0) 1 381 := ⟨by decide +kernel, rfl⟩
theorem d_X10_tripTo_381 : q_dec prog_12_method_35_code 381 (.getfield 32) 3 384 := ⟨by decide +kernel, rfl⟩
theorem d_X10_tripTo_384 : q_dec prog_12_method_35_code 384 (.iload 6) 2 386 := ⟨by decide +kernel, rfl⟩
theorem d_X10_tripTo_386 : q_dec prog_12_method_35_code 386 (.iload 14) 2 388 := ⟨by decide +kernel, rfl⟩
theorem d_X10_tripTo_388 : q_dec prog_12_method_35_code 388 (.iastore) 1 389 := ⟨by decide +kernel, rfl⟩
theorem d_X10_tripTo_389 : q_dec prog_12_method_35_code 389 (.iinc 6 1) 3 392 := ⟨by decide +kernel, rfl⟩
theorem d_X10_tripTo_392 : q_dec prog_12_method_35_code 392 (.iinc 12 1) 3 395 := ⟨by decide +kernel, rfl⟩
theorem d_X10_tripTo_395 : q_dec prog_12_method_35_code 395 (.goto (-173)) 3 398 := ⟨by decide +kernel, rfl⟩
theorem d_X10_tripTo_398 : q_dec prog_12_method_35_code 398 (.iinc 8 1) 3 401 := ⟨by decide +kernel, rfl⟩
theorem d_X10_tripTo_401 : q_dec prog_12_method_35_code 401 (.goto (-237)) 3 404 := ⟨by decide +kernel, rfl⟩
theorem d_X10_tripTo_404 : q_dec prog_12_method_35_code 404 (.iload 7) 2 406 := ⟨by decide +kernel, rfl⟩
theorem d_X10_tripTo_406 : q_dec prog_12_method_35_code 406 (.ireturn) 1 407 := ⟨by decide +kernel, rfl⟩
theorem m_X10_tripTo : q_wV y_X10_tripTo prog_12_method_35_code 16 (some .int) 2 := ⟨q_mem 883 (by decide +kernel) (by decide +kernel), q_mem 882 (by decide +kernel) (by decide +kernel), q_memS (n := 22) 31 (by decide +kernel), q_mem 11 (by decide +kernel) (by decide +kernel), by decide +kernel⟩
theorem d_X10_trip_0 : q_dec prog_12_method_36_code 0 (.aload_n 0) 1 1 := ⟨by decide +kernel, rfl⟩
theorem d_X10_trip_1 : q_dec prog_12_method_36_code 1 (.iload_n 1) 1 2 := ⟨by decide +kernel, rfl⟩
theorem d_X10_trip_2 : q_dec prog_12_method_36_code 2 (.invokevirtual 77) 3 5 := ⟨by decide +kernel, rfl⟩
theorem d_X10_trip_5 : q_dec prog_12_method_36_code 5 (.ifCond .eq 10) 3 8 := ⟨by decide +kernel, rfl⟩
theorem d_X10_trip_8 : q_dec prog_12_method_36_code 8 (.iload_n 2) 1 9 := ⟨by decide +kernel, rfl⟩
theorem d_X10_trip_9 : q_dec prog_12_method_36_code 9 (.invokestatic 66) 3 12 := ⟨by decide +kernel, rfl⟩
theorem d_X10_trip_12 : q_dec prog_12_method_36_code 12 (.ifCond .ne 5) 3 15 := ⟨by decide +kernel, rfl⟩
theorem d_X10_trip_15 : q_dec prog_12_method_36_code 15 (.iconst (-1)) 1 16 := ⟨by decide +kernel, rfl⟩
theorem d_X10_trip_16 : q_dec prog_12_method_36_code 16 (.ireturn) 1 17 := ⟨by decide +kernel, rfl⟩
theorem d_X10_trip_17 : q_dec prog_12_method_36_code 17 (.iload_n 3) 1 18 := ⟨by decide +kernel, rfl⟩
theorem d_X10_trip_18 : q_dec prog_12_method_36_code 18 (.iconst 0) 1 19 := ⟨by decide +kernel, rfl⟩
theorem d_X10_trip_19 : q_dec prog_12_method_36_code 19 (.iconst 1) 1 20 := ⟨by decide +kernel, rfl⟩
theorem d_X10_trip_20 : q_dec prog_12_method_36_code 20 (.invokestatic 55) 3 23 := ⟨by decide +kernel, rfl⟩
theorem d_X10_trip_23 : q_dec prog_12_method_36_code 23 (.ifCond .ne 6) 3 26 := ⟨by decide +kernel, rfl⟩
theorem d_X10_trip_26 : q_dec prog_12_method_36_code 26 (.bipush (-2)) 2 28 := ⟨by decide +kernel, rfl⟩
theorem d_X10_trip_28 : q_dec prog_12_method_36_code 28 (.ireturn) 1 29 := ⟨by decide +kernel, rfl⟩
theorem d_X10_trip_29 : q_dec prog_12_method_36_code 29 (.aload_n 0) 1 30 := ⟨by decide +kernel, rfl⟩
theorem d_X10_trip_30 : q_dec prog_12_method_36_code 30 (.invokevirtual 117) 3 33 := ⟨by decide +kernel, rfl⟩
theorem d_X10_trip_33 : q_dec prog_12_method_36_code 33 (.aload_n 0) 1 34 := ⟨by decide +kernel, rfl⟩
theorem d_X10_trip_34 : q_dec prog_12_method_36_code 34 (.getfield 13) 3 37 := ⟨by decide +kernel, rfl⟩
theorem d_X10_trip_37 : q_dec prog_12_method_36_code 37 (.bipush 6) 2 39 := ⟨by decide +kernel, rfl⟩
theorem d_X10_trip_39 : q_dec prog_12_method_36_code 39 (.iload_n 1) 1 40 := ⟨by decide +kernel, rfl⟩
theorem d_X10_trip_40 : q_dec prog_12_method_36_code 40 (.imul) 1 41 := ⟨by decide +kernel, rfl⟩
theorem d_X10_trip_41 : q_dec prog_12_method_36_code 41 (.iaload) 1 42 := ⟨by decide +kernel, rfl⟩
theorem d_X10_trip_42 : q_dec prog_12_method_36_code 42 (.iload_n 2) 1 43 := ⟨by decide +kernel, rfl⟩
theorem d_X10_trip_43 : q_dec prog_12_method_36_code 43 (.if_icmp .ne 14) 3 46 := ⟨by decide +kernel, rfl⟩
theorem d_X10_trip_46 : q_dec prog_12_method_36_code 46 (.iload_n 3) 1 47 := ⟨by decide +kernel, rfl⟩
theorem d_X10_trip_47 : q_dec prog_12_method_36_code 47 (.ifCond .ne 7) 3 50 := ⟨by decide +kernel, rfl⟩
theorem d_X10_trip_50 : q_dec prog_12_method_36_code 50 (.iconst 0) 1 51 := ⟨by decide +kernel, rfl⟩
theorem d_X10_trip_51 : q_dec prog_12_method_36_code 51 (.goto 5) 3 54 := ⟨by decide +kernel, rfl⟩
theorem d_X10_trip_54 : q_dec prog_12_method_36_code 54 (.bipush (-6)) 2 56 := ⟨by decide +kernel, rfl⟩
theorem d_X10_trip_56 : q_dec prog_12_method_36_code 56 (.ireturn) 1 57 := ⟨by decide +kernel, rfl⟩
theorem d_X10_trip_57 : q_dec prog_12_method_36_code 57 (.aload_n 0) 1 58 := ⟨by decide +kernel, rfl⟩
theorem d_X10_trip_58 : q_dec prog_12_method_36_code 58 (.iload_n 1) 1 59 := ⟨by decide +kernel, rfl⟩
theorem d_X10_trip_59 : q_dec prog_12_method_36_code 59 (.iload_n 2) 1 60 := ⟨by decide +kernel, rfl⟩
theorem d_X10_trip_60 : q_dec prog_12_method_36_code 60 (.invokevirtual 147) 3 63 := ⟨by decide +kernel, rfl⟩
theorem d_X10_trip_63 : q_dec prog_12_method_36_code 63 (.istore 4) 2 65 := ⟨by decide +kernel, rfl⟩
theorem d_X10_trip_65 : q_dec prog_12_method_36_code 65 (.iload 4) 2 67 := ⟨by decide +kernel, rfl⟩
theorem d_X10_trip_67 : q_dec prog_12_method_36_code 67 (.ifCond .ge 8) 3 70 := ⟨by decide +kernel, rfl⟩
theorem d_X10_trip_70 : q_dec prog_12_method_36_code 70 (.bipush (-6)) 2 72 := ⟨by decide +kernel, rfl⟩
theorem d_X10_trip_72 : q_dec prog_12_method_36_code 72 (.goto 20) 3 75 := ⟨by decide +kernel, rfl⟩
theorem d_X10_trip_75 : q_dec prog_12_method_36_code 75 (.iload_n 3) 1 76 := ⟨by decide +kernel, rfl⟩
theorem d_X10_trip_76 : q_dec prog_12_method_36_code 76 (.ifCond .ne 11) 3 79 := ⟨by decide +kernel, rfl⟩
theorem d_X10_trip_79 : q_dec prog_12_method_36_code 79 (.iload 4) 2 81 := ⟨by decide +kernel, rfl⟩
theorem d_X10_trip_81 : q_dec prog_12_method_36_code 81 (.bipush 10) 2 83 := ⟨by decide +kernel, rfl⟩
theorem d_X10_trip_83 : q_dec prog_12_method_36_code 83 (.idiv) 1 84 := ⟨by decide +kernel, rfl⟩
theorem d_X10_trip_84 : q_dec prog_12_method_36_code 84 (.goto 8) 3 87 := ⟨by decide +kernel, rfl⟩
theorem d_X10_trip_87 : q_dec prog_12_method_36_code 87 (.iload 4) 2 89 := ⟨by decide +kernel, rfl⟩
theorem d_X10_trip_89 : q_dec prog_12_method_36_code 89 (.bipush 10) 2 91 := ⟨by decide +kernel, rfl⟩
theorem d_X10_trip_91 : q_dec prog_12_method_36_code 91 (.irem) 1 92 := ⟨by decide +kernel, rfl⟩
theorem d_X10_trip_92 : q_dec prog_12_method_36_code 92 (.ireturn) 1 93 := ⟨by decide +kernel, rfl⟩
theorem m_X10_trip : q_wV y_X10_trip prog_12_method_36_code 5 (some .int) 3 := ⟨q_mem 879 (by decide +kernel) (by decide +kernel), q_mem 877 (by decide +kernel) (by decide +kernel), q_mem 878 (by decide +kernel) (by decide +kernel), q_mem 11 (by decide +kernel) (by decide +kernel), by decide +kernel⟩
theorem d_X10_again_0 : q_dec prog_12_method_37_code 0 (.aload_n 0) 1 1 := ⟨by decide +kernel, rfl⟩
theorem d_X10_again_1 : q_dec prog_12_method_37_code 1 (.iload_n 1) 1 2 := ⟨by decide +kernel, rfl⟩
theorem d_X10_again_2 : q_dec prog_12_method_37_code 2 (.invokevirtual 77) 3 5 := ⟨by decide +kernel, rfl⟩
theorem d_X10_again_5 : q_dec prog_12_method_37_code 5 (.ifCond .ne 5) 3 8 := ⟨by decide +kernel, rfl⟩
theorem d_X10_again_8 : q_dec prog_12_method_37_code 8 (.iconst (-1)) 1 9 := ⟨by decide +kernel, rfl⟩
theorem d_X10_again_9 : q_dec prog_12_method_37_code 9 (.ireturn) 1 10 := ⟨by decide +kernel, rfl⟩
theorem d_X10_again_10 : q_dec prog_12_method_37_code 10 (.iload_n 2) 1 11 := ⟨by decide +kernel, rfl⟩
theorem d_X10_again_11 : q_dec prog_12_method_37_code 11 (.iconst 0) 1 12 := ⟨by decide +kernel, rfl⟩
theorem d_X10_again_12 : q_dec prog_12_method_37_code 12 (.iconst 1) 1 13 := ⟨by decide +kernel, rfl⟩
theorem d_X10_again_13 : q_dec prog_12_method_37_code 13 (.invokestatic 55) 3 16 := ⟨by decide +kernel, rfl⟩
theorem d_X10_again_16 : q_dec prog_12_method_37_code 16 (.ifCond .ne 6) 3 19 := ⟨by decide +kernel, rfl⟩
theorem d_X10_again_19 : q_dec prog_12_method_37_code 19 (.bipush (-2)) 2 21 := ⟨by decide +kernel, rfl⟩
theorem d_X10_again_21 : q_dec prog_12_method_37_code 21 (.ireturn) 1 22 := ⟨by decide +kernel, rfl⟩
theorem d_X10_again_22 : q_dec prog_12_method_37_code 22 (.aload_n 0) 1 23 := ⟨by decide +kernel, rfl⟩
theorem d_X10_again_23 : q_dec prog_12_method_37_code 23 (.invokevirtual 117) 3 26 := ⟨by decide +kernel, rfl⟩
theorem d_X10_again_26 : q_dec prog_12_method_37_code 26 (.aload_n 0) 1 27 := ⟨by decide +kernel, rfl⟩
theorem d_X10_again_27 : q_dec prog_12_method_37_code 27 (.iload_n 1) 1 28 := ⟨by decide +kernel, rfl⟩
theorem d_X10_again_28 : q_dec prog_12_method_37_code 28 (.invokevirtual 93) 3 31 := ⟨by decide +kernel, rfl⟩
theorem d_X10_again_31 : q_dec prog_12_method_37_code 31 (.ifCond .ne 6) 3 34 := ⟨by decide +kernel, rfl⟩
theorem d_X10_again_34 : q_dec prog_12_method_37_code 34 (.bipush (-3)) 2 36 := ⟨by decide +kernel, rfl⟩
theorem d_X10_again_36 : q_dec prog_12_method_37_code 36 (.ireturn) 1 37 := ⟨by decide +kernel, rfl⟩
theorem d_X10_again_37 : q_dec prog_12_method_37_code 37 (.aload_n 0) 1 38 := ⟨by decide +kernel, rfl⟩
theorem d_X10_again_38 : q_dec prog_12_method_37_code 38 (.getfield 13) 3 41 := ⟨by decide +kernel, rfl⟩
theorem d_X10_again_41 : q_dec prog_12_method_37_code 41 (.bipush 36) 2 43 := ⟨by decide +kernel, rfl⟩
theorem d_X10_again_43 : q_dec prog_12_method_37_code 43 (.iload_n 1) 1 44 := ⟨by decide +kernel, rfl⟩
theorem d_X10_again_44 : q_dec prog_12_method_37_code 44 (.iadd) 1 45 := ⟨by decide +kernel, rfl⟩
theorem d_X10_again_45 : q_dec prog_12_method_37_code 45 (.iaload) 1 46 := ⟨by decide +kernel, rfl⟩
theorem d_X10_again_46 : q_dec prog_12_method_37_code 46 (.istore_n 3) 1 47 := ⟨by decide +kernel, rfl⟩
theorem d_X10_again_47 : q_dec prog_12_method_37_code 47 (.aload_n 0) 1 48 := ⟨by decide +kernel, rfl⟩
theorem d_X10_again_48 : q_dec prog_12_method_37_code 48 (.getfield 13) 3 51 := ⟨by decide +kernel, rfl⟩
theorem d_X10_again_51 : q_dec prog_12_method_37_code 51 (.bipush 42) 2 53 := ⟨by decide +kernel, rfl⟩
theorem d_X10_again_53 : q_dec prog_12_method_37_code 53 (.iload_n 1) 1 54 := ⟨by decide +kernel, rfl⟩
theorem d_X10_again_54 : q_dec prog_12_method_37_code 54 (.iadd) 1 55 := ⟨by decide +kernel, rfl⟩
theorem d_X10_again_55 : q_dec prog_12_method_37_code 55 (.iaload) 1 56 := ⟨by decide +kernel, rfl⟩
theorem d_X10_again_56 : q_dec prog_12_method_37_code 56 (.iconst 1) 1 57 := ⟨by decide +kernel, rfl⟩
theorem d_X10_again_57 : q_dec prog_12_method_37_code 57 (.if_icmp .ne 7) 3 60 := ⟨by decide +kernel, rfl⟩
theorem d_X10_again_60 : q_dec prog_12_method_37_code 60 (.iconst 1) 1 61 := ⟨by decide +kernel, rfl⟩
theorem d_X10_again_61 : q_dec prog_12_method_37_code 61 (.goto 4) 3 64 := ⟨by decide +kernel, rfl⟩
theorem d_X10_again_64 : q_dec prog_12_method_37_code 64 (.iconst (-1)) 1 65 := ⟨by decide +kernel, rfl⟩
theorem d_X10_again_65 : q_dec prog_12_method_37_code 65 (.istore 4) 2 67 := ⟨by decide +kernel, rfl⟩
theorem d_X10_again_67 : q_dec prog_12_method_37_code 67 (.iconst 0) 1 68 := ⟨by decide +kernel, rfl⟩
theorem d_X10_again_68 : q_dec prog_12_method_37_code 68 (.istore 5) 2 70 := ⟨by decide +kernel, rfl⟩
theorem d_X10_again_70 : q_dec prog_12_method_37_code 70 (.iload 5) 2 72 := ⟨by decide +kernel, rfl⟩
theorem d_X10_again_72 : q_dec prog_12_method_37_code 72 (.bipush 100) 2 74 := ⟨by decide +kernel, rfl⟩
theorem d_X10_again_74 : q_dec prog_12_method_37_code 74 (.if_icmp .ge 67) 3 77 := ⟨by decide +kernel, rfl⟩
theorem d_X10_again_77 : q_dec prog_12_method_37_code 77 (.iload_n 3) 1 78 := ⟨by decide +kernel, rfl⟩
theorem d_X10_again_78 : q_dec prog_12_method_37_code 78 (.aload_n 0) 1 79 := ⟨by decide +kernel, rfl⟩
theorem d_X10_again_79 : q_dec prog_12_method_37_code 79 (.getfield 13) 3 82 := ⟨by decide +kernel, rfl⟩
theorem d_X10_again_82 : q_dec prog_12_method_37_code 82 (.bipush 6) 2 84 := ⟨by decide +kernel, rfl⟩
theorem d_X10_again_84 : q_dec prog_12_method_37_code 84 (.iload_n 1) 1 85 := ⟨by decide +kernel, rfl⟩
theorem d_X10_again_85 : q_dec prog_12_method_37_code 85 (.imul) 1 86 := ⟨by decide +kernel, rfl⟩
theorem d_X10_again_86 : q_dec prog_12_method_37_code 86 (.iaload) 1 87 := ⟨by decide +kernel, rfl⟩
theorem d_X10_again_87 : q_dec prog_12_method_37_code 87 (.isub) 1 88 := ⟨by decide +kernel, rfl⟩
theorem d_X10_again_88 : q_dec prog_12_method_37_code 88 (.iload 5) 2 90 := ⟨by decide +kernel, rfl⟩
theorem d_X10_again_90 : q_dec prog_12_method_37_code 90 (.ineg) 1 91 := ⟨by decide +kernel, rfl⟩
theorem d_X10_again_91 : q_dec prog_12_method_37_code 91 (.iload 5) 2 93 := ⟨by decide +kernel, rfl⟩
theorem d_X10_again_93 : q_dec prog_12_method_37_code 93 (.invokestatic 55) 3 96 := ⟨by decide +kernel, rfl⟩
theorem d_X10_again_96 : q_dec prog_12_method_37_code 96 (.ifCond .eq 14) 3 99 := ⟨by decide +kernel, rfl⟩
theorem d_X10_again_99 : q_dec prog_12_method_37_code 99 (.iload_n 2) 1 100 := ⟨by decide +kernel, rfl⟩
theorem d_X10_again_100 : q_dec prog_12_method_37_code 100 (.ifCond .ne 8) 3 103 := ⟨by decide +kernel, rfl⟩
theorem d_X10_again_103 : q_dec prog_12_method_37_code 103 (.iload 5) 2 105 := ⟨by decide +kernel, rfl⟩
theorem d_X10_again_105 : q_dec prog_12_method_37_code 105 (.goto 4) 3 108 := ⟨by decide +kernel, rfl⟩
theorem d_X10_again_108 : q_dec prog_12_method_37_code 108 (.iload_n 3) 1 109 := ⟨by decide +kernel, rfl⟩
theorem d_X10_again_109 : q_dec prog_12_method_37_code 109 (.ireturn) 1 110 := ⟨by decide +kernel, rfl⟩
theorem d_X10_again_110 : q_dec prog_12_method_37_code 110 (.iload_n 3) 1 111 := ⟨by decide +kernel, rfl⟩
theorem d_X10_again_111 : q_dec prog_12_method_37_code 111 (.iload 4) 2 113 := ⟨by decide +kernel, rfl⟩
theorem d_X10_again_113 : q_dec prog_12_method_37_code 113 (.iadd) 1 114 := ⟨by decide +kernel, rfl⟩
theorem d_X10_again_114 : q_dec prog_12_method_37_code 114 (.invokestatic 66) 3 117 := ⟨by decide +kernel, rfl⟩
theorem d_X10_again_117 : q_dec prog_12_method_37_code 117 (.ifCond .eq 8) 3 120 := ⟨by decide +kernel, rfl⟩
theorem d_X10_again_120 : q_dec prog_12_method_37_code 120 (.iload 4) 2 122 := ⟨by decide +kernel, rfl⟩
theorem d_X10_again_122 : q_dec prog_12_method_37_code 122 (.goto 6) 3 125 := ⟨by decide +kernel, rfl⟩
theorem d_X10_again_125 : q_dec prog_12_method_37_code 125 (.iload 4) 2 127 := ⟨by decide +kernel, rfl⟩
theorem d_X10_again_127 : q_dec prog_12_method_37_code 127 (.ineg) 1 128 := ⟨by decide +kernel, rfl⟩
theorem d_X10_again_128 : q_dec prog_12_method_37_code 128 (.istore 4) 2 130 := ⟨by decide +kernel, rfl⟩
theorem d_X10_again_130 : q_dec prog_12_method_37_code 130 (.iload_n 3) 1 131 := ⟨by decide +kernel, rfl⟩
theorem d_X10_again_131 : q_dec prog_12_method_37_code 131 (.iload 4) 2 133 := ⟨by decide +kernel, rfl⟩
theorem d_X10_again_133 : q_dec prog_12_method_37_code 133 (.iadd) 1 134 := ⟨by decide +kernel, rfl⟩
theorem d_X10_again_134 : q_dec prog_12_method_37_code 134 (.istore_n 3) 1 135 := ⟨by decide +kernel, rfl⟩
theorem d_X10_again_135 : q_dec prog_12_method_37_code 135 (.iinc 5 1) 3 138 := ⟨by decide +kernel, rfl⟩
theorem d_X10_again_138 : q_dec prog_12_method_37_code 138 (.goto (-68)) 3 141 := ⟨by decide +kernel, rfl⟩
theorem d_X10_again_141 : q_dec prog_12_method_37_code 141 (.bipush (-6)) 2 143 := ⟨by decide +kernel, rfl⟩
theorem d_X10_again_143 : q_dec prog_12_method_37_code 143 (.ireturn) 1 144 := ⟨by decide +kernel, rfl⟩
theorem m_X10_again : q_wV y_X10_again prog_12_method_37_code 6 (some .int) 2 := ⟨q_mem 890 (by decide +kernel) (by decide +kernel), q_mem 888 (by decide +kernel) (by decide +kernel), q_mem 889 (by decide +kernel) (by decide +kernel), q_mem 11 (by decide +kernel) (by decide +kernel), by decide +kernel⟩
theorem d_X10_digit_0 : q_dec prog_12_method_38_code 0 (.iload_n 0) 1 1 := ⟨by decide +kernel, rfl⟩
theorem d_X10_digit_1 : q_dec prog_12_method_38_code 1 (.istore_n 2) 1 2 := ⟨by decide +kernel, rfl⟩
theorem d_X10_digit_2 : q_dec prog_12_method_38_code 2 (.iconst 5) 1 3 := ⟨by decide +kernel, rfl⟩
theorem d_X10_digit_3 : q_dec prog_12_method_38_code 3 (.istore_n 3) 1 4 := ⟨by decide +kernel, rfl⟩
theorem d_X10_digit_4 : q_dec prog_12_method_38_code 4 (.iload_n 3) 1 5 := ⟨by decide +kernel, rfl⟩
theorem d_X10_digit_5 : q_dec prog_12_method_38_code 5 (.iload_n 1) 1 6 := ⟨by decide +kernel, rfl⟩
theorem d_X10_digit_6 : q_dec prog_12_method_38_code 6 (.if_icmp .le 14) 3 9 := ⟨by decide +kernel, rfl⟩
theorem d_X10_digit_9 : q_dec prog_12_method_38_code 9 (.iload_n 2) 1 10 := ⟨by decide +kernel, rfl⟩
theorem d_X10_digit_10 : q_dec prog_12_method_38_code 10 (.bipush 10) 2 12 := ⟨by decide +kernel, rfl⟩
theorem d_X10_digit_12 : q_dec prog_12_method_38_code 12 (.idiv) 1 13 := ⟨by decide +kernel, rfl⟩
theorem d_X10_digit_13 : q_dec prog_12_method_38_code 13 (.istore_n 2) 1 14 := ⟨by decide +kernel, rfl⟩
theorem d_X10_digit_14 : q_dec prog_12_method_38_code 14 (.iinc 3 (-1)) 3 17 := ⟨by decide +kernel, rfl⟩
theorem d_X10_digit_17 : q_dec prog_12_method_38_code 17 (.goto (-13)) 3 20 := ⟨by decide +kernel, rfl⟩
theorem d_X10_digit_20 : q_dec prog_12_method_38_code 20 (.iload_n 2) 1 21 := ⟨by decide +kernel, rfl⟩
theorem d_X10_digit_21 : q_dec prog_12_method_38_code 21 (.bipush 10) 2 23 := ⟨by decide +kernel, rfl⟩
theorem d_X10_digit_23 : q_dec prog_12_method_38_code 23 (.irem) 1 24 := ⟨by decide +kernel, rfl⟩
theorem d_X10_digit_24 : q_dec prog_12_method_38_code 24 (.ireturn) 1 25 := ⟨by decide +kernel, rfl⟩
theorem m_X10_digit : q_wS y_X10_digit prog_12_method_38_code 4 (some .int) 2 := ⟨q_mem 898 (by decide +kernel) (by decide +kernel), q_mem 897 (by decide +kernel) (by decide +kernel), q_mem 11 (by decide +kernel) (by decide +kernel), by decide +kernel⟩
theorem d_X10_order_0 : q_dec prog_12_method_39_code 0 (.iload_n 1) 1 1 := ⟨by decide +kernel, rfl⟩
theorem d_X10_order_1 : q_dec prog_12_method_39_code 1 (.iconst 0) 1 2 := ⟨by decide +kernel, rfl⟩
theorem d_X10_order_2 : q_dec prog_12_method_39_code 2 (.ldc 150) 2 4 := ⟨by decide +kernel, rfl⟩
theorem d_X10_order_4 : q_dec prog_12_method_39_code 4 (.invokestatic 55) 3 7 := ⟨by decide +kernel, rfl⟩
theorem d_X10_order_7 : q_dec prog_12_method_39_code 7 (.ifCond .eq 22) 3 10 := ⟨by decide +kernel, rfl⟩
theorem d_X10_order_10 : q_dec prog_12_method_39_code 10 (.iload_n 2) 1 11 := ⟨by decide +kernel, rfl⟩
theorem d_X10_order_11 : q_dec prog_12_method_39_code 11 (.iconst 0) 1 12 := ⟨by decide +kernel, rfl⟩
theorem d_X10_order_12 : q_dec prog_12_method_39_code 12 (.ldc 150) 2 14 := ⟨by decide +kernel, rfl⟩
theorem d_X10_order_14 : q_dec prog_12_method_39_code 14 (.invokestatic 55) 3 17 := ⟨by decide +kernel, rfl⟩
theorem d_X10_order_17 : q_dec prog_12_method_39_code 17 (.ifCond .eq 12) 3 20 := ⟨by decide +kernel, rfl⟩
theorem d_X10_order_20 : q_dec prog_12_method_39_code 20 (.iload_n 3) 1 21 := ⟨by decide +kernel, rfl⟩
theorem d_X10_order_21 : q_dec prog_12_method_39_code 21 (.iconst 0) 1 22 := ⟨by decide +kernel, rfl⟩
theorem d_X10_order_22 : q_dec prog_12_method_39_code 22 (.iconst 1) 1 23 := ⟨by decide +kernel, rfl⟩
theorem d_X10_order_23 : q_dec prog_12_method_39_code 23 (.invokestatic 55) 3 26 := ⟨by decide +kernel, rfl⟩
theorem d_X10_order_26 : q_dec prog_12_method_39_code 26 (.ifCond .ne 6) 3 29 := ⟨by decide +kernel, rfl⟩
theorem d_X10_order_29 : q_dec prog_12_method_39_code 29 (.bipush (-2)) 2 31 := ⟨by decide +kernel, rfl⟩
theorem d_X10_order_31 : q_dec prog_12_method_39_code 31 (.ireturn) 1 32 := ⟨by decide +kernel, rfl⟩
theorem d_X10_order_32 : q_dec prog_12_method_39_code 32 (.iconst 0) 1 33 := ⟨by decide +kernel, rfl⟩
theorem d_X10_order_33 : q_dec prog_12_method_39_code 33 (.istore 4) 2 35 := ⟨by decide +kernel, rfl⟩
theorem d_X10_order_35 : q_dec prog_12_method_39_code 35 (.iconst 0) 1 36 := ⟨by decide +kernel, rfl⟩
theorem d_X10_order_36 : q_dec prog_12_method_39_code 36 (.istore 5) 2 38 := ⟨by decide +kernel, rfl⟩
theorem d_X10_order_38 : q_dec prog_12_method_39_code 38 (.iload 5) 2 40 := ⟨by decide +kernel, rfl⟩
theorem d_X10_order_40 : q_dec prog_12_method_39_code 40 (.bipush 6) 2 42 := ⟨by decide +kernel, rfl⟩
theorem d_X10_order_42 : q_dec prog_12_method_39_code 42 (.if_icmp .ge 28) 3 45 := ⟨by decide +kernel, rfl⟩
theorem d_X10_order_45 : q_dec prog_12_method_39_code 45 (.iload 4) 2 47 := ⟨by decide +kernel, rfl⟩
theorem d_X10_order_47 : q_dec prog_12_method_39_code 47 (.iload_n 2) 1 48 := ⟨by decide +kernel, rfl⟩
theorem d_X10_order_48 : q_dec prog_12_method_39_code 48 (.iload 5) 2 50 := ⟨by decide +kernel, rfl⟩
theorem d_X10_order_50 : q_dec prog_12_method_39_code 50 (.invokestatic 151) 3 53 := ⟨by decide +kernel, rfl⟩
theorem d_X10_order_53 : q_dec prog_12_method_39_code 53 (.ifCond .le 7) 3 56 := ⟨by decide +kernel, rfl⟩
theorem d_X10_order_56 : q_dec prog_12_method_39_code 56 (.iconst 1) 1 57 := ⟨by decide +kernel, rfl⟩
theorem d_X10_order_57 : q_dec prog_12_method_39_code 57 (.goto 4) 3 60 := ⟨by decide +kernel, rfl⟩
theorem d_X10_order_60 : q_dec prog_12_method_39_code 60 (.iconst 0) 1 61 := ⟨by decide +kernel, rfl⟩
theorem d_X10_order_61 : q_dec prog_12_method_39_code 61 (.iadd) 1 62 := ⟨by decide +kernel, rfl⟩
theorem d_X10_order_62 : q_dec prog_12_method_39_code 62 (.istore 4) 2 64 := ⟨by decide +kernel, rfl⟩
theorem d_X10_order_64 : q_dec prog_12_method_39_code 64 (.iinc 5 1) 3 67 := ⟨by decide +kernel, rfl⟩
theorem d_X10_order_67 : q_dec prog_12_method_39_code 67 (.goto (-29)) 3 70 := ⟨by decide +kernel, rfl⟩
theorem d_X10_order_70 : q_dec prog_12_method_39_code 70 (.iconst 1) 1 71 := ⟨by decide +kernel, rfl⟩
theorem d_X10_order_71 : q_dec prog_12_method_39_code 71 (.istore 5) 2 73 := ⟨by decide +kernel, rfl⟩
theorem d_X10_order_73 : q_dec prog_12_method_39_code 73 (.iconst 0) 1 74 := ⟨by decide +kernel, rfl⟩
theorem d_X10_order_74 : q_dec prog_12_method_39_code 74 (.istore 6) 2 76 := ⟨by decide +kernel, rfl⟩
theorem d_X10_order_76 : q_dec prog_12_method_39_code 76 (.iload 6) 2 78 := ⟨by decide +kernel, rfl⟩
theorem d_X10_order_78 : q_dec prog_12_method_39_code 78 (.iload 4) 2 80 := ⟨by decide +kernel, rfl⟩
theorem d_X10_order_80 : q_dec prog_12_method_39_code 80 (.if_icmp .ge 16) 3 83 := ⟨by decide +kernel, rfl⟩
theorem d_X10_order_83 : q_dec prog_12_method_39_code 83 (.iload 5) 2 85 := ⟨by decide +kernel, rfl⟩
theorem d_X10_order_85 : q_dec prog_12_method_39_code 85 (.bipush 6) 2 87 := ⟨by decide +kernel, rfl⟩
theorem d_X10_order_87 : q_dec prog_12_method_39_code 87 (.imul) 1 88 := ⟨by decide +kernel, rfl⟩
theorem d_X10_order_88 : q_dec prog_12_method_39_code 88 (.istore 5) 2 90 := ⟨by decide +kernel, rfl⟩
theorem d_X10_order_90 : q_dec prog_12_method_39_code 90 (.iinc 6 1) 3 93 := ⟨by decide +kernel, rfl⟩
theorem d_X10_order_93 : q_dec prog_12_method_39_code 93 (.goto (-17)) 3 96 := ⟨by decide +kernel, rfl⟩
theorem d_X10_order_96 : q_dec prog_12_method_39_code 96 (.ldc 154) 2 98 := ⟨by decide +kernel, rfl⟩
theorem d_X10_order_98 : q_dec prog_12_method_39_code 98 (.istore 6) 2 100 := ⟨by decide +kernel, rfl⟩
theorem d_X10_order_100 : q_dec prog_12_method_39_code 100 (.iconst 0) 1 101 := ⟨by decide +kernel, rfl⟩
theorem d_X10_order_101 : q_dec prog_12_method_39_code 101 (.istore 7) 2 103 := ⟨by decide +kernel, rfl⟩
theorem d_X10_order_103 : q_dec prog_12_method_39_code 103 (.iconst 0) 1 104 := ⟨by decide +kernel, rfl⟩
theorem d_X10_order_104 : q_dec prog_12_method_39_code 104 (.istore 8) 2 106 := ⟨by decide +kernel, rfl⟩
theorem d_X10_order_106 : q_dec prog_12_method_39_code 106 (.iload 8) 2 108 := ⟨by decide +kernel, rfl⟩
theorem d_X10_order_108 : q_dec prog_12_method_39_code 108 (.iload 5) 2 110 := ⟨by decide +kernel, rfl⟩
theorem d_X10_order_110 : q_dec prog_12_method_39_code 110 (.if_icmp .ge 201) 3 113 := ⟨by decide +kernel, rfl⟩
theorem d_X10_order_113 : q_dec prog_12_method_39_code 113 (.iload 5) 2 115 := ⟨by decide +kernel, rfl⟩
theorem d_X10_order_115 : q_dec prog_12_method_39_code 115 (.istore 9) 2 117 := ⟨by decide +kernel, rfl⟩
theorem d_X10_order_117 : q_dec prog_12_method_39_code 117 (.iconst 0) 1 118 := ⟨by decide +kernel, rfl⟩
theorem d_X10_order_118 : q_dec prog_12_method_39_code 118 (.istore 10) 2 120 := ⟨by decide +kernel, rfl⟩
theorem d_X10_order_120 : q_dec prog_12_method_39_code 120 (.iconst 0) 1 121 := ⟨by decide +kernel, rfl⟩
theorem d_X10_order_121 : q_dec prog_12_method_39_code 121 (.istore 11) 2 123 := ⟨by decide +kernel, rfl⟩
theorem d_X10_order_123 : q_dec prog_12_method_39_code 123 (.iconst 0) 1 124 := ⟨by decide +kernel, rfl⟩
theorem d_X10_order_124 : q_dec prog_12_method_39_code 124 (.istore 12) 2 126 := ⟨by decide +kernel, rfl⟩
theorem d_X10_order_126 : q_dec prog_12_method_39_code 126 (.iconst 0) 1 127 := ⟨by decide +kernel, rfl⟩
theorem d_X10_order_127 : q_dec prog_12_method_39_code 127 (.istore 13) 2 129 := ⟨by decide +kernel, rfl⟩
theorem d_X10_order_129 : q_dec prog_12_method_39_code 129 (.iconst 0) 1 130 := ⟨by decide +kernel, rfl⟩
theorem d_X10_order_130 : q_dec prog_12_method_39_code 130 (.istore 14) 2 132 := ⟨by decide +kernel, rfl⟩
theorem d_X10_order_132 : q_dec prog_12_method_39_code 132 (.iload 14) 2 134 := ⟨by decide +kernel, rfl⟩
theorem d_X10_order_134 : q_dec prog_12_method_39_code 134 (.iload 4) 2 136 := ⟨by decide +kernel, rfl⟩
theorem d_X10_order_136 : q_dec prog_12_method_39_code 136 (.if_icmp .ge 137) 3 139 := ⟨by decide +kernel, rfl⟩
theorem d_X10_order_139 : q_dec prog_12_method_39_code 139 (.iload 12) 2 141 := ⟨by decide +kernel, rfl⟩
theorem d_X10_order_141 : q_dec prog_12_method_39_code 141 (.ldc 154) 2 143 := ⟨by decide +kernel, rfl⟩
theorem d_X10_order_143 : q_dec prog_12_method_39_code 143 (.if_icmp .ge 130) 3 146 := ⟨by decide +kernel, rfl⟩
theorem d_X10_order_146 : q_dec prog_12_method_39_code 146 (.iload 9) 2 148 := ⟨by decide +kernel, rfl⟩
theorem d_X10_order_148 : q_dec prog_12_method_39_code 148 (.bipush 6) 2 150 := ⟨by decide +kernel, rfl⟩
theorem d_X10_order_150 : q_dec prog_12_method_39_code 150 (.idiv) 1 151 := ⟨by decide +kernel, rfl⟩
theorem d_X10_order_151 : q_dec prog_12_method_39_code 151 (.istore 9) 2 153 := ⟨by decide +kernel, rfl⟩
theorem d_X10_order_153 : q_dec prog_12_method_39_code 153 (.iload 8) 2 155 := ⟨by decide +kernel, rfl⟩
theorem d_X10_order_155 : q_dec prog_12_method_39_code 155 (.iload 9) 2 157 := ⟨by decide +kernel, rfl⟩
theorem d_X10_order_157 : q_dec prog_12_method_39_code 157 (.idiv) 1 158 := ⟨by decide +kernel, rfl⟩
theorem d_X10_order_158 : q_dec prog_12_method_39_code 158 (.bipush 6) 2 160 := ⟨by decide +kernel, rfl⟩
theorem d_X10_order_160 : q_dec prog_12_method_39_code 160 (.irem) 1 161 := ⟨by decide +kernel, rfl⟩
theorem d_X10_order_161 : q_dec prog_12_method_39_code 161 (.istore 15) 2 163 := ⟨by decide +kernel, rfl⟩
theorem d_X10_order_163 : q_dec prog_12_method_39_code 163 (.iload 10) 2 165 := ⟨by decide +kernel, rfl⟩
theorem d_X10_order_165 : q_dec prog_12_method_39_code 165 (.iload 15) 2 167 := ⟨by decide +kernel, rfl⟩
theorem d_X10_order_167 : q_dec prog_12_method_39_code 167 (.invokestatic 62) 3 170 := ⟨by decide +kernel, rfl⟩
theorem d_X10_order_170 : q_dec prog_12_method_39_code 170 (.ifCond .ne 16) 3 173 := ⟨by decide +kernel, rfl⟩
theorem d_X10_order_173 : q_dec prog_12_method_39_code 173 (.iload_n 2) 1 174 := ⟨by decide +kernel, rfl⟩
theorem d_X10_order_174 : q_dec prog_12_method_39_code 174 (.iload 15) 2 176 := ⟨by decide +kernel, rfl⟩
theorem d_X10_order_176 : q_dec prog_12_method_39_code 176 (.invokestatic 151) 3 179 := ⟨by decide +kernel, rfl⟩
theorem d_X10_order_179 : q_dec prog_12_method_39_code 179 (.ifCond .le 7) 3 182 := ⟨by decide +kernel, rfl⟩
theorem d_X10_order_182 : q_dec prog_12_method_39_code 182 (.iconst 1) 1 183 := ⟨by decide +kernel, rfl⟩
theorem d_X10_order_183 : q_dec prog_12_method_39_code 183 (.goto 4) 3 186 := ⟨by decide +kernel, rfl⟩
theorem d_X10_order_186 : q_dec prog_12_method_39_code 186 (.iconst 0) 1 187 := ⟨by decide +kernel, rfl⟩
theorem d_X10_order_187 : q_dec prog_12_method_39_code 187 (.istore 16) 2 189 := ⟨by decide +kernel, rfl⟩
theorem d_X10_order_189 : q_dec prog_12_method_39_code 189 (.iload_n 1) 1 190 := ⟨by decide +kernel, rfl⟩
theorem d_X10_order_190 : q_dec prog_12_method_39_code 190 (.iload 15) 2 192 := ⟨by decide +kernel, rfl⟩
theorem d_X10_order_192 : q_dec prog_12_method_39_code 192 (.invokestatic 151) 3 195 := ⟨by decide +kernel, rfl⟩
theorem d_X10_order_195 : q_dec prog_12_method_39_code 195 (.iload 11) 2 197 := ⟨by decide +kernel, rfl⟩
theorem d_X10_order_197 : q_dec prog_12_method_39_code 197 (.if_icmp .le 12) 3 200 := ⟨by decide +kernel, rfl⟩
theorem d_X10_order_200 : q_dec prog_12_method_39_code 200 (.iload_n 1) 1 201 := ⟨by decide +kernel, rfl⟩
theorem d_X10_order_201 : q_dec prog_12_method_39_code 201 (.iload 15) 2 203 := ⟨by decide +kernel, rfl⟩
theorem d_X10_order_203 : q_dec prog_12_method_39_code 203 (.invokestatic 151) 3 206 := ⟨by decide +kernel, rfl⟩
theorem d_X10_order_206 : q_dec prog_12_method_39_code 206 (.goto 5) 3 209 := ⟨by decide +kernel, rfl⟩
theorem d_X10_order_209 : q_dec prog_12_method_39_code 209 (.iload 11) 2 211 := ⟨by decide +kernel, rfl⟩
theorem d_X10_order_211 : q_dec prog_12_method_39_code 211 (.istore 17) 2 213 := ⟨by decide +kernel, rfl⟩
theorem d_X10_order_213 : q_dec prog_12_method_39_code 213 (.iload 10) 2 215 := ⟨by decide +kernel, rfl⟩
theorem d_X10_order_215 : q_dec prog_12_method_39_code 215 (.iconst 1) 1 216 := ⟨by decide +kernel, rfl⟩
theorem d_X10_order_216 : q_dec prog_12_method_39_code 216 (.iload 15) 2 218 := ⟨by decide +kernel, rfl⟩
theorem d_X10_order_218 : q_dec prog_12_method_39_code 218 (.ishl) 1 219 := ⟨by decide +kernel, rfl⟩
theorem d_X10_order_219 : q_dec prog_12_method_39_code 219 (.ior) 1 220 := ⟨by decide +kernel, rfl⟩
theorem d_X10_order_220 : q_dec prog_12_method_39_code 220 (.istore 10) 2 222 := ⟨by decide +kernel, rfl⟩
theorem d_X10_order_222 : q_dec prog_12_method_39_code 222 (.iload 16) 2 224 := ⟨by decide +kernel, rfl⟩
theorem d_X10_order_224 : q_dec prog_12_method_39_code 224 (.ifCond .eq 18) 3 227 := ⟨by decide +kernel, rfl⟩
theorem d_X10_order_227 : q_dec prog_12_method_39_code 227 (.iload 12) 2 229 := ⟨by decide +kernel, rfl⟩
theorem d_X10_order_229 : q_dec prog_12_method_39_code 229 (.iload 17) 2 231 := ⟨by decide +kernel, rfl⟩
theorem d_X10_order_231 : q_dec prog_12_method_39_code 231 (.iadd) 1 232 := ⟨by decide +kernel, rfl⟩
theorem d_X10_order_232 : q_dec prog_12_method_39_code 232 (.iload_n 1) 1 233 := ⟨by decide +kernel, rfl⟩
theorem d_X10_order_233 : q_dec prog_12_method_39_code 233 (.iload 15) 2 235 := ⟨by decide +kernel, rfl⟩
theorem d_X10_order_235 : q_dec prog_12_method_39_code 235 (.invokestatic 151) 3 238 := ⟨by decide +kernel, rfl⟩
theorem d_X10_order_238 : q_dec prog_12_method_39_code 238 (.isub) 1 239 := ⟨by decide +kernel, rfl⟩
theorem d_X10_order_239 : q_dec prog_12_method_39_code 239 (.goto 5) 3 242 := ⟨by decide +kernel, rfl⟩
theorem d_X10_order_242 : q_dec prog_12_method_39_code 242 (.ldc 154) 2 244 := ⟨by decide +kernel, rfl⟩
theorem d_X10_order_244 : q_dec prog_12_method_39_code 244 (.istore 12) 2 246 := ⟨by decide +kernel, rfl⟩
theorem d_X10_order_246 : q_dec prog_12_method_39_code 246 (.iload 17) 2 248 := ⟨by decide +kernel, rfl⟩
theorem d_X10_order_248 : q_dec prog_12_method_39_code 248 (.iload_n 2) 1 249 := ⟨by decide +kernel, rfl⟩
theorem d_X10_order_249 : q_dec prog_12_method_39_code 249 (.iload 15) 2 251 := ⟨by decide +kernel, rfl⟩
theorem d_X10_order_251 : q_dec prog_12_method_39_code 251 (.invokestatic 151) 3 254 := ⟨by decide +kernel, rfl⟩
theorem d_X10_order_254 : q_dec prog_12_method_39_code 254 (.iadd) 1 255 := ⟨by decide +kernel, rfl⟩
theorem d_X10_order_255 : q_dec prog_12_method_39_code 255 (.istore 11) 2 257 := ⟨by decide +kernel, rfl⟩
theorem d_X10_order_257 : q_dec prog_12_method_39_code 257 (.bipush 10) 2 259 := ⟨by decide +kernel, rfl⟩
theorem d_X10_order_259 : q_dec prog_12_method_39_code 259 (.iload 13) 2 261 := ⟨by decide +kernel, rfl⟩
theorem d_X10_order_261 : q_dec prog_12_method_39_code 261 (.imul) 1 262 := ⟨by decide +kernel, rfl⟩
theorem d_X10_order_262 : q_dec prog_12_method_39_code 262 (.iload 15) 2 264 := ⟨by decide +kernel, rfl⟩
theorem d_X10_order_264 : q_dec prog_12_method_39_code 264 (.iadd) 1 265 := ⟨by decide +kernel, rfl⟩
theorem d_X10_order_265 : q_dec prog_12_method_39_code 265 (.istore 13) 2 267 := ⟨by decide +kernel, rfl⟩
theorem d_X10_order_267 : q_dec prog_12_method_39_code 267 (.iinc 14 1) 3 270 := ⟨by decide +kernel, rfl⟩
theorem d_X10_order_270 : q_dec prog_12_method_39_code 270 (.goto (-138)) 3 273 := ⟨by decide +kernel, rfl⟩
theorem d_X10_order_273 : q_dec prog_12_method_39_code 273 (.iload 12) 2 275 := ⟨by decide +kernel, rfl⟩
theorem d_X10_order_275 : q_dec prog_12_method_39_code 275 (.iload 6) 2 277 := ⟨by decide +kernel, rfl⟩
theorem d_X10_order_277 : q_dec prog_12_method_39_code 277 (.if_icmp .ge 8) 3 280 := ⟨by decide +kernel, rfl⟩
theorem d_X10_order_280 : q_dec prog_12_method_39_code 280 (.iload 13) 2 282 := ⟨by decide +kernel, rfl⟩
theorem d_X10_order_282 : q_dec prog_12_method_39_code 282 (.goto 5) 3 285 := ⟨by decide +kernel, rfl⟩
theorem d_X10_order_285 : q_dec prog_12_method_39_code 285 (.iload 7) 2 287 := ⟨by decide +kernel, rfl⟩
theorem d_X10_order_287 : q_dec prog_12_method_39_code 287 (.istore 7) 2 289 := ⟨by decide +kernel, rfl⟩
theorem d_X10_order_289 : q_dec prog_12_method_39_code 289 (.iload 12) 2 291 := ⟨by decide +kernel, rfl⟩
theorem d_X10_order_291 : q_dec prog_12_method_39_code 291 (.iload 6) 2 293 := ⟨by decide +kernel, rfl⟩
theorem d_X10_order_293 : q_dec prog_12_method_39_code 293 (.if_icmp .ge 8) 3 296 := ⟨by decide +kernel, rfl⟩
theorem d_X10_order_296 : q_dec prog_12_method_39_code 296 (.iload 12) 2 298 := ⟨by decide +kernel, rfl⟩
theorem d_X10_order_298 : q_dec prog_12_method_39_code 298 (.goto 5) 3 301 := ⟨by decide +kernel, rfl⟩
theorem d_X10_order_301 : q_dec prog_12_method_39_code 301 (.iload 6) 2 303 := ⟨by decide +kernel, rfl⟩
theorem d_X10_order_303 : q_dec prog_12_method_39_code 303 (.istore 6) 2 305 := ⟨by decide +kernel, rfl⟩
theorem d_X10_order_305 : q_dec prog_12_method_39_code 305 (.iinc 8 1) 3 308 := ⟨by decide +kernel, rfl⟩
theorem d_X10_order_308 : q_dec prog_12_method_39_code 308 (.goto (-202)) 3 311 := ⟨by decide +kernel, rfl⟩
theorem d_X10_order_311 : q_dec prog_12_method_39_code 311 (.iload_n 3) 1 312 := ⟨by decide +kernel, rfl⟩
theorem d_X10_order_312 : q_dec prog_12_method_39_code 312 (.ifCond .ne 8) 3 315 := ⟨by decide +kernel, rfl⟩
theorem d_X10_order_315 : q_dec prog_12_method_39_code 315 (.iload 6) 2 317 := ⟨by decide +kernel, rfl⟩
theorem d_X10_order_317 : q_dec prog_12_method_39_code 317 (.goto 5) 3 320 := ⟨by decide +kernel, rfl⟩
theorem d_X10_order_320 : q_dec prog_12_method_39_code 320 (.iload 7) 2 322 := ⟨by decide +kernel, rfl⟩
theorem d_X10_order_322 : q_dec prog_12_method_39_code 322 (.ireturn) 1 323 := ⟨by decide +kernel, rfl⟩
theorem m_X10_order : q_wV y_X10_order prog_12_method_39_code 18 (some .int) 3 := ⟨q_mem 894 (by decide +kernel) (by decide +kernel), q_mem 892 (by decide +kernel) (by decide +kernel), q_mem 893 (by decide +kernel) (by decide +kernel), q_mem 11 (by decide +kernel) (by decide +kernel), by decide +kernel⟩
theorem d_X10_seen_0 : q_dec prog_12_method_40_code 0 (.iload_n 2) 1 1 := ⟨by decide +kernel, rfl⟩
theorem d_X10_seen_1 : q_dec prog_12_method_40_code 1 (.invokestatic 66) 3 4 := ⟨by decide +kernel, rfl⟩
theorem d_X10_seen_4 : q_dec prog_12_method_40_code 4 (.ifCond .ne 5) 3 7 := ⟨by decide +kernel, rfl⟩
theorem d_X10_seen_7 : q_dec prog_12_method_40_code 7 (.iconst (-1)) 1 8 := ⟨by decide +kernel, rfl⟩
theorem d_X10_seen_8 : q_dec prog_12_method_40_code 8 (.ireturn) 1 9 := ⟨by decide +kernel, rfl⟩
theorem d_X10_seen_9 : q_dec prog_12_method_40_code 9 (.iload_n 1) 1 10 := ⟨by decide +kernel, rfl⟩
theorem d_X10_seen_10 : q_dec prog_12_method_40_code 10 (.iconst 0) 1 11 := ⟨by decide +kernel, rfl⟩
theorem d_X10_seen_11 : q_dec prog_12_method_40_code 11 (.bipush 60) 2 13 := ⟨by decide +kernel, rfl⟩
theorem d_X10_seen_13 : q_dec prog_12_method_40_code 13 (.invokestatic 55) 3 16 := ⟨by decide +kernel, rfl⟩
theorem d_X10_seen_16 : q_dec prog_12_method_40_code 16 (.ifCond .ne 6) 3 19 := ⟨by decide +kernel, rfl⟩
theorem d_X10_seen_19 : q_dec prog_12_method_40_code 19 (.bipush (-2)) 2 21 := ⟨by decide +kernel, rfl⟩
theorem d_X10_seen_21 : q_dec prog_12_method_40_code 21 (.ireturn) 1 22 := ⟨by decide +kernel, rfl⟩
theorem d_X10_seen_22 : q_dec prog_12_method_40_code 22 (.aload_n 0) 1 23 := ⟨by decide +kernel, rfl⟩
theorem d_X10_seen_23 : q_dec prog_12_method_40_code 23 (.getfield 155) 3 26 := ⟨by decide +kernel, rfl⟩
theorem d_X10_seen_26 : q_dec prog_12_method_40_code 26 (.bipush 8) 2 28 := ⟨by decide +kernel, rfl⟩
theorem d_X10_seen_28 : q_dec prog_12_method_40_code 28 (.if_icmp .ne 6) 3 31 := ⟨by decide +kernel, rfl⟩
theorem d_X10_seen_31 : q_dec prog_12_method_40_code 31 (.bipush (-4)) 2 33 := ⟨by decide +kernel, rfl⟩
theorem d_X10_seen_33 : q_dec prog_12_method_40_code 33 (.ireturn) 1 34 := ⟨by decide +kernel, rfl⟩
theorem d_X10_seen_34 : q_dec prog_12_method_40_code 34 (.aload_n 0) 1 35 := ⟨by decide +kernel, rfl⟩
theorem d_X10_seen_35 : q_dec prog_12_method_40_code 35 (.getfield 23) 3 38 := ⟨by decide +kernel, rfl⟩
theorem d_X10_seen_38 : q_dec prog_12_method_40_code 38 (.iconst 2) 1 39 := ⟨by decide +kernel, rfl⟩
theorem d_X10_seen_39 : q_dec prog_12_method_40_code 39 (.aload_n 0) 1 40 := ⟨by decide +kernel, rfl⟩
theorem d_X10_seen_40 : q_dec prog_12_method_40_code 40 (.getfield 155) 3 43 := ⟨by decide +kernel, rfl⟩
theorem d_X10_seen_43 : q_dec prog_12_method_40_code 43 (.imul) 1 44 := ⟨by decide +kernel, rfl⟩
theorem d_X10_seen_44 : q_dec prog_12_method_40_code 44 (.iload_n 1) 1 45 := ⟨by decide +kernel, rfl⟩
theorem d_X10_seen_45 : q_dec prog_12_method_40_code 45 (.iastore) 1 46 := ⟨by decide +kernel, rfl⟩
theorem d_X10_seen_46 : q_dec prog_12_method_40_code 46 (.aload_n 0) 1 47 := ⟨by decide +kernel, rfl⟩
theorem d_X10_seen_47 : q_dec prog_12_method_40_code 47 (.getfield 23) 3 50 := ⟨by decide +kernel, rfl⟩
theorem d_X10_seen_50 : q_dec prog_12_method_40_code 50 (.iconst 2) 1 51 := ⟨by decide +kernel, rfl⟩
theorem d_X10_seen_51 : q_dec prog_12_method_40_code 51 (.aload_n 0) 1 52 := ⟨by decide +kernel, rfl⟩
theorem d_X10_seen_52 : q_dec prog_12_method_40_code 52 (.getfield 155) 3 55 := ⟨by decide +kernel, rfl⟩
theorem d_X10_seen_55 : q_dec prog_12_method_40_code 55 (.imul) 1 56 := ⟨by decide +kernel, rfl⟩
theorem d_X10_seen_56 : q_dec prog_12_method_40_code 56 (.iconst 1) 1 57 := ⟨by decide +kernel, rfl⟩
theorem d_X10_seen_57 : q_dec prog_12_method_40_code 57 (.iadd) 1 58 := ⟨by decide +kernel, rfl⟩
theorem d_X10_seen_58 : q_dec prog_12_method_40_code 58 (.iload_n 2) 1 59 := ⟨by decide +kernel, rfl⟩
theorem d_X10_seen_59 : q_dec prog_12_method_40_code 59 (.iastore) 1 60 := ⟨by decide +kernel, rfl⟩
theorem d_X10_seen_60 : q_dec prog_12_method_40_code 60 (.aload_n 0) 1 61 := ⟨by decide +kernel, rfl⟩
theorem d_X10_seen_61 : q_dec prog_12_method_40_code 61 (.dup) 1 62 := ⟨by decide +kernel, rfl⟩
theorem d_X10_seen_62 : q_dec prog_12_method_40_code 62 (.getfield 155) 3 65 := ⟨by decide +kernel, rfl⟩
theorem d_X10_seen_65 : q_dec prog_12_method_40_code 65 (.iconst 1) 1 66 := ⟨by decide +kernel, rfl⟩
theorem d_X10_seen_66 : q_dec prog_12_method_40_code 66 (.iadd) 1 67 := ⟨by decide +kernel, rfl⟩
theorem d_X10_seen_67 : q_dec prog_12_method_40_code 67 (.putfield 155) 3 70 := ⟨by decide +kernel, rfl⟩
theorem d_X10_seen_70 : q_dec prog_12_method_40_code 70 (.aload_n 0) 1 71 := ⟨by decide +kernel, rfl⟩
theorem d_X10_seen_71 : q_dec prog_12_method_40_code 71 (.getfield 155) 3 74 := ⟨by decide +kernel, rfl⟩
theorem d_X10_seen_74 : q_dec prog_12_method_40_code 74 (.ireturn) 1 75 := ⟨by decide +kernel, rfl⟩
theorem m_X10_seen : q_wV y_X10_seen prog_12_method_40_code 3 (some .int) 2 := ⟨q_mem 903 (by decide +kernel) (by decide +kernel), q_mem 901 (by decide +kernel) (by decide +kernel), q_mem 902 (by decide +kernel) (by decide +kernel), q_mem 11 (by decide +kernel) (by decide +kernel), by decide +kernel⟩
theorem d_X10_forget_0 : q_dec prog_12_method_41_code 0 (.aload_n 0) 1 1 := ⟨by decide +kernel, rfl⟩
theorem d_X10_forget_1 : q_dec prog_12_method_41_code 1 (.getfield 155) 3 4 := ⟨by decide +kernel, rfl⟩
theorem d_X10_forget_4 : q_dec prog_12_method_41_code 4 (.istore_n 1) 1 5 := ⟨by decide +kernel, rfl⟩
theorem d_X10_forget_5 : q_dec prog_12_method_41_code 5 (.aload_n 0) 1 6 := ⟨by decide +kernel, rfl⟩
theorem d_X10_forget_6 : q_dec prog_12_method_41_code 6 (.iconst 0) 1 7 := ⟨by decide +kernel, rfl⟩
theorem d_X10_forget_7 : q_dec prog_12_method_41_code 7 (.putfield 155) 3 10 := ⟨by decide +kernel, rfl⟩
theorem d_X10_forget_10 : q_dec prog_12_method_41_code 10 (.iload_n 1) 1 11 := ⟨by decide +kernel, rfl⟩
theorem d_X10_forget_11 : q_dec prog_12_method_41_code 11 (.ireturn) 1 12 := ⟨by decide +kernel, rfl⟩
theorem m_X10_forget : q_wV y_X10_forget prog_12_method_41_code 2 (some .int) 0 := ⟨q_mem 907 (by decide +kernel) (by decide +kernel), q_mem 905 (by decide +kernel) (by decide +kernel), q_mem 906 (by decide +kernel) (by decide +kernel), q_mem 11 (by decide +kernel) (by decide +kernel), by decide +kernel⟩
theorem d_X10_cellAt_0 : q_dec prog_12_method_42_code 0 (.iload_n 0) 1 1 := ⟨by decide +kernel, rfl⟩
theorem d_X10_cellAt_1 : q_dec prog_12_method_42_code 1 (.sipush 1000) 3 4 := ⟨by decide +kernel, rfl⟩
theorem d_X10_cellAt_4 : q_dec prog_12_method_42_code 4 (.idiv) 1 5 := ⟨by decide +kernel, rfl⟩
theorem d_X10_cellAt_5 : q_dec prog_12_method_42_code 5 (.iload_n 0) 1 6 := ⟨by decide +kernel, rfl⟩
theorem d_X10_cellAt_6 : q_dec prog_12_method_42_code 6 (.bipush 10) 2 8 := ⟨by decide +kernel, rfl⟩
theorem d_X10_cellAt_8 : q_dec prog_12_method_42_code 8 (.idiv) 1 9 := ⟨by decide +kernel, rfl⟩
theorem d_X10_cellAt_9 : q_dec prog_12_method_42_code 9 (.bipush 100) 2 11 := ⟨by decide +kernel, rfl⟩
theorem d_X10_cellAt_11 : q_dec prog_12_method_42_code 11 (.irem) 1 12 := ⟨by decide +kernel, rfl⟩
theorem d_X10_cellAt_12 : q_dec prog_12_method_42_code 12 (.iconst 3) 1 13 := ⟨by decide +kernel, rfl⟩
theorem d_X10_cellAt_13 : q_dec prog_12_method_42_code 13 (.isub) 1 14 := ⟨by decide +kernel, rfl⟩
theorem d_X10_cellAt_14 : q_dec prog_12_method_42_code 14 (.iload_n 1) 1 15 := ⟨by decide +kernel, rfl⟩
theorem d_X10_cellAt_15 : q_dec prog_12_method_42_code 15 (.iload_n 0) 1 16 := ⟨by decide +kernel, rfl⟩
theorem d_X10_cellAt_16 : q_dec prog_12_method_42_code 16 (.bipush 10) 2 18 := ⟨by decide +kernel, rfl⟩
theorem d_X10_cellAt_18 : q_dec prog_12_method_42_code 18 (.irem) 1 19 := ⟨by decide +kernel, rfl⟩
theorem d_X10_cellAt_19 : q_dec prog_12_method_42_code 19 (.isub) 1 20 := ⟨by decide +kernel, rfl⟩
theorem d_X10_cellAt_20 : q_dec prog_12_method_42_code 20 (.imul) 1 21 := ⟨by decide +kernel, rfl⟩
theorem d_X10_cellAt_21 : q_dec prog_12_method_42_code 21 (.iadd) 1 22 := ⟨by decide +kernel, rfl⟩
theorem d_X10_cellAt_22 : q_dec prog_12_method_42_code 22 (.istore_n 2) 1 23 := ⟨by decide +kernel, rfl⟩
theorem d_X10_cellAt_23 : q_dec prog_12_method_42_code 23 (.iload_n 2) 1 24 := ⟨by decide +kernel, rfl⟩
theorem d_X10_cellAt_24 : q_dec prog_12_method_42_code 24 (.bipush 20) 2 26 := ⟨by decide +kernel, rfl⟩
theorem d_X10_cellAt_26 : q_dec prog_12_method_42_code 26 (.irem) 1 27 := ⟨by decide +kernel, rfl⟩
theorem d_X10_cellAt_27 : q_dec prog_12_method_42_code 27 (.bipush 20) 2 29 := ⟨by decide +kernel, rfl⟩
theorem d_X10_cellAt_29 : q_dec prog_12_method_42_code 29 (.iadd) 1 30 := ⟨by decide +kernel, rfl⟩
theorem d_X10_cellAt_30 : q_dec prog_12_method_42_code 30 (.bipush 20) 2 32 := ⟨by decide +kernel, rfl⟩
theorem d_X10_cellAt_32 : q_dec prog_12_method_42_code 32 (.irem) 1 33 := ⟨by decide +kernel, rfl⟩
theorem d_X10_cellAt_33 : q_dec prog_12_method_42_code 33 (.ireturn) 1 34 := ⟨by decide +kernel, rfl⟩
theorem m_X10_cellAt : q_wS y_X10_cellAt prog_12_method_42_code 3 (some .int) 2 := ⟨q_mem 918 (by decide +kernel) (by decide +kernel), q_mem 917 (by decide +kernel) (by decide +kernel), q_mem 11 (by decide +kernel) (by decide +kernel), by decide +kernel⟩
theorem d_X10_isFit_0 : q_dec prog_12_method_43_code 0 (.iload_n 1) 1 1 := ⟨by decide +kernel, rfl⟩
theorem d_X10_isFit_1 : q_dec prog_12_method_43_code 1 (.bipush 10) 2 3 := ⟨by decide +kernel, rfl⟩
theorem d_X10_isFit_3 : q_dec prog_12_method_43_code 3 (.idiv) 1 4 := ⟨by decide +kernel, rfl⟩
theorem d_X10_isFit_4 : q_dec prog_12_method_43_code 4 (.bipush 100) 2 6 := ⟨by decide +kernel, rfl⟩
theorem d_X10_isFit_6 : q_dec prog_12_method_43_code 6 (.irem) 1 7 := ⟨by decide +kernel, rfl⟩
theorem d_X10_isFit_7 : q_dec prog_12_method_43_code 7 (.bipush 7) 2 9 := ⟨by decide +kernel, rfl⟩
theorem d_X10_isFit_9 : q_dec prog_12_method_43_code 9 (.if_icmp .ge 7) 3 12 := ⟨by decide +kernel, rfl⟩
theorem d_X10_isFit_12 : q_dec prog_12_method_43_code 12 (.iconst 1) 1 13 := ⟨by decide +kernel, rfl⟩
theorem d_X10_isFit_13 : q_dec prog_12_method_43_code 13 (.goto 4) 3 16 := ⟨by decide +kernel, rfl⟩
theorem d_X10_isFit_16 : q_dec prog_12_method_43_code 16 (.iconst 0) 1 17 := ⟨by decide +kernel, rfl⟩
theorem d_X10_isFit_17 : q_dec prog_12_method_43_code 17 (.istore_n 2) 1 18 := ⟨by decide +kernel, rfl⟩
theorem d_X10_isFit_18 : q_dec prog_12_method_43_code 18 (.iconst 0) 1 19 := ⟨by decide +kernel, rfl⟩
theorem d_X10_isFit_19 : q_dec prog_12_method_43_code 19 (.istore_n 3) 1 20 := ⟨by decide +kernel, rfl⟩
theorem d_X10_isFit_20 : q_dec prog_12_method_43_code 20 (.iload_n 3) 1 21 := ⟨by decide +kernel, rfl⟩
theorem d_X10_isFit_21 : q_dec prog_12_method_43_code 21 (.aload_n 0) 1 22 := ⟨by decide +kernel, rfl⟩
theorem d_X10_isFit_22 : q_dec prog_12_method_43_code 22 (.getfield 155) 3 25 := ⟨by decide +kernel, rfl⟩
theorem d_X10_isFit_25 : q_dec prog_12_method_43_code 25 (.if_icmp .ge 44) 3 28 := ⟨by decide +kernel, rfl⟩
theorem d_X10_isFit_28 : q_dec prog_12_method_43_code 28 (.iload_n 2) 1 29 := ⟨by decide +kernel, rfl⟩
theorem d_X10_isFit_29 : q_dec prog_12_method_43_code 29 (.ifCond .eq 40) 3 32 := ⟨by decide +kernel, rfl⟩
theorem d_X10_isFit_32 : q_dec prog_12_method_43_code 32 (.iload_n 1) 1 33 := ⟨by decide +kernel, rfl⟩
theorem d_X10_isFit_33 : q_dec prog_12_method_43_code 33 (.aload_n 0) 1 34 := ⟨by decide +kernel, rfl⟩
theorem d_X10_isFit_34 : q_dec prog_12_method_43_code 34 (.getfield 23) 3 37 := ⟨by decide +kernel, rfl⟩
theorem d_X10_isFit_37 : q_dec prog_12_method_43_code 37 (.iconst 2) 1 38 := ⟨by decide +kernel, rfl⟩
theorem d_X10_isFit_38 : q_dec prog_12_method_43_code 38 (.iload_n 3) 1 39 := ⟨by decide +kernel, rfl⟩
theorem d_X10_isFit_39 : q_dec prog_12_method_43_code 39 (.imul) 1 40 := ⟨by decide +kernel, rfl⟩
theorem d_X10_isFit_40 : q_dec prog_12_method_43_code 40 (.iaload) 1 41 := ⟨by decide +kernel, rfl⟩
theorem d_X10_isFit_41 : q_dec prog_12_method_43_code 41 (.invokestatic 158) 3 44 := ⟨by decide +kernel, rfl⟩
theorem d_X10_isFit_44 : q_dec prog_12_method_43_code 44 (.aload_n 0) 1 45 := ⟨by decide +kernel, rfl⟩
theorem d_X10_isFit_45 : q_dec prog_12_method_43_code 45 (.getfield 23) 3 48 := ⟨by decide +kernel, rfl⟩
theorem d_X10_isFit_48 : q_dec prog_12_method_43_code 48 (.iconst 2) 1 49 := ⟨by decide +kernel, rfl⟩
theorem d_X10_isFit_49 : q_dec prog_12_method_43_code 49 (.iload_n 3) 1 50 := ⟨by decide +kernel, rfl⟩
theorem d_X10_isFit_50 : q_dec prog_12_method_43_code 50 (.imul) 1 51 := ⟨by decide +kernel, rfl⟩
theorem d_X10_isFit_51 : q_dec prog_12_method_43_code 51 (.iconst 1) 1 52 := ⟨by decide +kernel, rfl⟩
theorem d_X10_isFit_52 : q_dec prog_12_method_43_code 52 (.iadd) 1 53 := ⟨by decide +kernel, rfl⟩
theorem d_X10_isFit_53 : q_dec prog_12_method_43_code 53 (.iaload) 1 54 := ⟨by decide +kernel, rfl⟩
theorem d_X10_isFit_54 : q_dec prog_12_method_43_code 54 (.if_icmp .ne 7) 3 57 := ⟨by decide +kernel, rfl⟩
theorem d_X10_isFit_57 : q_dec prog_12_method_43_code 57 (.iconst 1) 1 58 := ⟨by decide +kernel, rfl⟩
theorem d_X10_isFit_58 : q_dec prog_12_method_43_code 58 (.goto 4) 3 61 := ⟨by decide +kernel, rfl⟩
theorem d_X10_isFit_61 : q_dec prog_12_method_43_code 61 (.iconst 0) 1 62 := ⟨by decide +kernel, rfl⟩
theorem d_X10_isFit_62 : q_dec prog_12_method_43_code 62 (.istore_n 2) 1 63 := ⟨by decide +kernel, rfl⟩
theorem d_X10_isFit_63 : q_dec prog_12_method_43_code 63 (.iinc 3 1) 3 66 := ⟨by decide +kernel, rfl⟩
theorem d_X10_isFit_66 : q_dec prog_12_method_43_code 66 (.goto (-46)) 3 69 := ⟨by decide +kernel, rfl⟩
theorem d_X10_isFit_69 : q_dec prog_12_method_43_code 69 (.iload_n 2) 1 70 := ⟨by decide +kernel, rfl⟩
theorem d_X10_isFit_70 : q_dec prog_12_method_43_code 70 (.ireturn) 1 71 := ⟨by decide +kernel, rfl⟩
theorem m_X10_isFit : q_wV y_X10_isFit prog_12_method_43_code 4 (some .boolean) 1 := ⟨q_mem 915 (by decide +kernel) (by decide +kernel), q_mem 914 (by decide +kernel) (by decide +kernel), q_memS (n := 22) 32 (by decide +kernel), q_mem 11 (by decide +kernel) (by decide +kernel), by decide +kernel⟩
theorem d_X10_fits_0 : q_dec prog_12_method_44_code 0 (.iconst 0) 1 1 := ⟨by decide +kernel, rfl⟩
theorem d_X10_fits_1 : q_dec prog_12_method_44_code 1 (.istore_n 2) 1 2 := ⟨by decide +kernel, rfl⟩
theorem d_X10_fits_2 : q_dec prog_12_method_44_code 2 (.iconst 0) 1 3 := ⟨by decide +kernel, rfl⟩
theorem d_X10_fits_3 : q_dec prog_12_method_44_code 3 (.istore_n 3) 1 4 := ⟨by decide +kernel, rfl⟩
theorem d_X10_fits_4 : q_dec prog_12_method_44_code 4 (.iload_n 3) 1 5 := ⟨by decide +kernel, rfl⟩
theorem d_X10_fits_5 : q_dec prog_12_method_44_code 5 (.sipush 20000) 3 8 := ⟨by decide +kernel, rfl⟩
theorem d_X10_fits_8 : q_dec prog_12_method_44_code 8 (.if_icmp .ge 27) 3 11 := ⟨by decide +kernel, rfl⟩
theorem d_X10_fits_11 : q_dec prog_12_method_44_code 11 (.aload_n 0) 1 12 := ⟨by decide +kernel, rfl⟩
theorem d_X10_fits_12 : q_dec prog_12_method_44_code 12 (.iload_n 3) 1 13 := ⟨by decide +kernel, rfl⟩
theorem d_X10_fits_13 : q_dec prog_12_method_44_code 13 (.invokevirtual 161) 3 16 := ⟨by decide +kernel, rfl⟩
theorem d_X10_fits_16 : q_dec prog_12_method_44_code 16 (.ifCond .eq 13) 3 19 := ⟨by decide +kernel, rfl⟩
theorem d_X10_fits_19 : q_dec prog_12_method_44_code 19 (.iload_n 2) 1 20 := ⟨by decide +kernel, rfl⟩
theorem d_X10_fits_20 : q_dec prog_12_method_44_code 20 (.iload_n 1) 1 21 := ⟨by decide +kernel, rfl⟩
theorem d_X10_fits_21 : q_dec prog_12_method_44_code 21 (.if_icmp .ne 5) 3 24 := ⟨by decide +kernel, rfl⟩
theorem d_X10_fits_24 : q_dec prog_12_method_44_code 24 (.iload_n 3) 1 25 := ⟨by decide +kernel, rfl⟩
theorem d_X10_fits_25 : q_dec prog_12_method_44_code 25 (.ireturn) 1 26 := ⟨by decide +kernel, rfl⟩
theorem d_X10_fits_26 : q_dec prog_12_method_44_code 26 (.iinc 2 1) 3 29 := ⟨by decide +kernel, rfl⟩
theorem d_X10_fits_29 : q_dec prog_12_method_44_code 29 (.iinc 3 1) 3 32 := ⟨by decide +kernel, rfl⟩
theorem d_X10_fits_32 : q_dec prog_12_method_44_code 32 (.goto (-28)) 3 35 := ⟨by decide +kernel, rfl⟩
theorem d_X10_fits_35 : q_dec prog_12_method_44_code 35 (.iload_n 1) 1 36 := ⟨by decide +kernel, rfl⟩
theorem d_X10_fits_36 : q_dec prog_12_method_44_code 36 (.iconst (-1)) 1 37 := ⟨by decide +kernel, rfl⟩
theorem d_X10_fits_37 : q_dec prog_12_method_44_code 37 (.if_icmp .ne 7) 3 40 := ⟨by decide +kernel, rfl⟩
theorem d_X10_fits_40 : q_dec prog_12_method_44_code 40 (.iload_n 2) 1 41 := ⟨by decide +kernel, rfl⟩
theorem d_X10_fits_41 : q_dec prog_12_method_44_code 41 (.goto 5) 3 44 := ⟨by decide +kernel, rfl⟩
theorem d_X10_fits_44 : q_dec prog_12_method_44_code 44 (.bipush (-6)) 2 46 := ⟨by decide +kernel, rfl⟩
theorem d_X10_fits_46 : q_dec prog_12_method_44_code 46 (.ireturn) 1 47 := ⟨by decide +kernel, rfl⟩
theorem m_X10_fits : q_wV y_X10_fits prog_12_method_44_code 4 (some .int) 1 := ⟨q_mem 911 (by decide +kernel) (by decide +kernel), q_mem 909 (by decide +kernel) (by decide +kernel), q_mem 910 (by decide +kernel) (by decide +kernel), q_mem 11 (by decide +kernel) (by decide +kernel), by decide +kernel⟩
theorem d_X10_ask_0 : q_dec prog_12_method_45_code 0 (.iload_n 1) 1 1 := ⟨by decide +kernel, rfl⟩
theorem d_X10_ask_1 : q_dec prog_12_method_45_code 1 (.iconst 0) 1 2 := ⟨by decide +kernel, rfl⟩
theorem d_X10_ask_2 : q_dec prog_12_method_45_code 2 (.iconst 1) 1 3 := ⟨by decide +kernel, rfl⟩
theorem d_X10_ask_3 : q_dec prog_12_method_45_code 3 (.invokestatic 55) 3 6 := ⟨by decide +kernel, rfl⟩
theorem d_X10_ask_6 : q_dec prog_12_method_45_code 6 (.ifCond .ne 6) 3 9 := ⟨by decide +kernel, rfl⟩
theorem d_X10_ask_9 : q_dec prog_12_method_45_code 9 (.bipush (-2)) 2 11 := ⟨by decide +kernel, rfl⟩
theorem d_X10_ask_11 : q_dec prog_12_method_45_code 11 (.ireturn) 1 12 := ⟨by decide +kernel, rfl⟩
theorem d_X10_ask_12 : q_dec prog_12_method_45_code 12 (.iconst 0) 1 13 := ⟨by decide +kernel, rfl⟩
theorem d_X10_ask_13 : q_dec prog_12_method_45_code 13 (.istore_n 2) 1 14 := ⟨by decide +kernel, rfl⟩
theorem d_X10_ask_14 : q_dec prog_12_method_45_code 14 (.iconst 0) 1 15 := ⟨by decide +kernel, rfl⟩
theorem d_X10_ask_15 : q_dec prog_12_method_45_code 15 (.istore_n 3) 1 16 := ⟨by decide +kernel, rfl⟩
theorem d_X10_ask_16 : q_dec prog_12_method_45_code 16 (.iload_n 3) 1 17 := ⟨by decide +kernel, rfl⟩
theorem d_X10_ask_17 : q_dec prog_12_method_45_code 17 (.sipush 20000) 3 20 := ⟨by decide +kernel, rfl⟩
theorem d_X10_ask_20 : q_dec prog_12_method_45_code 20 (.if_icmp .ge 27) 3 23 := ⟨by decide +kernel, rfl⟩
theorem d_X10_ask_23 : q_dec prog_12_method_45_code 23 (.aload_n 0) 1 24 := ⟨by decide +kernel, rfl⟩
theorem d_X10_ask_24 : q_dec prog_12_method_45_code 24 (.iload_n 3) 1 25 := ⟨by decide +kernel, rfl⟩
theorem d_X10_ask_25 : q_dec prog_12_method_45_code 25 (.invokevirtual 161) 3 28 := ⟨by decide +kernel, rfl⟩
theorem d_X10_ask_28 : q_dec prog_12_method_45_code 28 (.ifCond .eq 13) 3 31 := ⟨by decide +kernel, rfl⟩
theorem d_X10_ask_31 : q_dec prog_12_method_45_code 31 (.aload_n 0) 1 32 := ⟨by decide +kernel, rfl⟩
theorem d_X10_ask_32 : q_dec prog_12_method_45_code 32 (.getfield 35) 3 35 := ⟨by decide +kernel, rfl⟩
theorem d_X10_ask_35 : q_dec prog_12_method_45_code 35 (.iload_n 2) 1 36 := ⟨by decide +kernel, rfl⟩
theorem d_X10_ask_36 : q_dec prog_12_method_45_code 36 (.iload_n 3) 1 37 := ⟨by decide +kernel, rfl⟩
theorem d_X10_ask_37 : q_dec prog_12_method_45_code 37 (.iastore) 1 38 := ⟨by decide +kernel, rfl⟩
theorem d_X10_ask_38 : q_dec prog_12_method_45_code 38 (.iinc 2 1) 3 41 := ⟨by decide +kernel, rfl⟩
theorem d_X10_ask_41 : q_dec prog_12_method_45_code 41 (.iinc 3 1) 3 44 := ⟨by decide +kernel, rfl⟩
theorem d_X10_ask_44 : q_dec prog_12_method_45_code 44 (.goto (-28)) 3 47 := ⟨by decide +kernel, rfl⟩
theorem d_X10_ask_47 : q_dec prog_12_method_45_code 47 (.bipush (-6)) 2 49 := ⟨by decide +kernel, rfl⟩
theorem d_X10_ask_49 : q_dec prog_12_method_45_code 49 (.istore_n 3) 1 50 := ⟨by decide +kernel, rfl⟩
theorem d_X10_ask_50 : q_dec prog_12_method_45_code 50 (.ldc 154) 2 52 := ⟨by decide +kernel, rfl⟩
theorem d_X10_ask_52 : q_dec prog_12_method_45_code 52 (.istore 4) 2 54 := ⟨by decide +kernel, rfl⟩
theorem d_X10_ask_54 : q_dec prog_12_method_45_code 54 (.iconst 0) 1 55 := ⟨by decide +kernel, rfl⟩
theorem d_X10_ask_55 : q_dec prog_12_method_45_code 55 (.istore 5) 2 57 := ⟨by decide +kernel, rfl⟩
theorem d_X10_ask_57 : q_dec prog_12_method_45_code 57 (.iload 5) 2 59 := ⟨by decide +kernel, rfl⟩
theorem d_X10_ask_59 : q_dec prog_12_method_45_code 59 (.bipush 61) 2 61 := ⟨by decide +kernel, rfl⟩
theorem d_X10_ask_61 : q_dec prog_12_method_45_code 61 (.if_icmp .ge 136) 3 64 := ⟨by decide +kernel, rfl⟩
theorem d_X10_ask_64 : q_dec prog_12_method_45_code 64 (.iload_n 2) 1 65 := ⟨by decide +kernel, rfl⟩
theorem d_X10_ask_65 : q_dec prog_12_method_45_code 65 (.ifCond .le 132) 3 68 := ⟨by decide +kernel, rfl⟩
theorem d_X10_ask_68 : q_dec prog_12_method_45_code 68 (.iconst 0) 1 69 := ⟨by decide +kernel, rfl⟩
theorem d_X10_ask_69 : q_dec prog_12_method_45_code 69 (.istore 6) 2 71 := ⟨by decide +kernel, rfl⟩
theorem d_X10_ask_71 : q_dec prog_12_method_45_code 71 (.iconst 0) 1 72 := ⟨by decide +kernel, rfl⟩
theorem d_X10_ask_72 : q_dec prog_12_method_45_code 72 (.istore 7) 2 74 := ⟨by decide +kernel, rfl⟩
theorem d_X10_ask_74 : q_dec prog_12_method_45_code 74 (.iload 7) 2 76 := ⟨by decide +kernel, rfl⟩
theorem d_X10_ask_76 : q_dec prog_12_method_45_code 76 (.bipush 20) 2 78 := ⟨by decide +kernel, rfl⟩
theorem d_X10_ask_78 : q_dec prog_12_method_45_code 78 (.if_icmp .ge 17) 3 81 := ⟨by decide +kernel, rfl⟩
theorem d_X10_ask_81 : q_dec prog_12_method_45_code 81 (.aload_n 0) 1 82 := ⟨by decide +kernel, rfl⟩
theorem d_X10_ask_82 : q_dec prog_12_method_45_code 82 (.getfield 38) 3 85 := ⟨by decide +kernel, rfl⟩
theorem d_X10_ask_85 : q_dec prog_12_method_45_code 85 (.iload 7) 2 87 := ⟨by decide +kernel, rfl⟩
theorem d_X10_ask_87 : q_dec prog_12_method_45_code 87 (.iconst 0) 1 88 := ⟨by decide +kernel, rfl⟩
theorem d_X10_ask_88 : q_dec prog_12_method_45_code 88 (.iastore) 1 89 := ⟨by decide +kernel, rfl⟩
theorem d_X10_ask_89 : q_dec prog_12_method_45_code 89 (.iinc 7 1) 3 92 := ⟨by decide +kernel, rfl⟩
theorem d_X10_ask_92 : q_dec prog_12_method_45_code 92 (.goto (-18)) 3 95 := ⟨by decide +kernel, rfl⟩
theorem d_X10_ask_95 : q_dec prog_12_method_45_code 95 (.iconst 0) 1 96 := ⟨by decide +kernel, rfl⟩
theorem d_X10_ask_96 : q_dec prog_12_method_45_code 96 (.istore 7) 2 98 := ⟨by decide +kernel, rfl⟩
theorem d_X10_ask_98 : q_dec prog_12_method_45_code 98 (.iload 7) 2 100 := ⟨by decide +kernel, rfl⟩
theorem d_X10_ask_100 : q_dec prog_12_method_45_code 100 (.iload_n 2) 1 101 := ⟨by decide +kernel, rfl⟩
theorem d_X10_ask_101 : q_dec prog_12_method_45_code 101 (.if_icmp .ge 60) 3 104 := ⟨by decide +kernel, rfl⟩
theorem d_X10_ask_104 : q_dec prog_12_method_45_code 104 (.aload_n 0) 1 105 := ⟨by decide +kernel, rfl⟩
theorem d_X10_ask_105 : q_dec prog_12_method_45_code 105 (.getfield 35) 3 108 := ⟨by decide +kernel, rfl⟩
theorem d_X10_ask_108 : q_dec prog_12_method_45_code 108 (.iload 7) 2 110 := ⟨by decide +kernel, rfl⟩
theorem d_X10_ask_110 : q_dec prog_12_method_45_code 110 (.iaload) 1 111 := ⟨by decide +kernel, rfl⟩
theorem d_X10_ask_111 : q_dec prog_12_method_45_code 111 (.iload 5) 2 113 := ⟨by decide +kernel, rfl⟩
theorem d_X10_ask_113 : q_dec prog_12_method_45_code 113 (.invokestatic 158) 3 116 := ⟨by decide +kernel, rfl⟩
theorem d_X10_ask_116 : q_dec prog_12_method_45_code 116 (.istore 8) 2 118 := ⟨by decide +kernel, rfl⟩
theorem d_X10_ask_118 : q_dec prog_12_method_45_code 118 (.aload_n 0) 1 119 := ⟨by decide +kernel, rfl⟩
theorem d_X10_ask_119 : q_dec prog_12_method_45_code 119 (.getfield 38) 3 122 := ⟨by decide +kernel, rfl⟩
theorem d_X10_ask_122 : q_dec prog_12_method_45_code 122 (.iload 8) 2 124 := ⟨by decide +kernel, rfl⟩
theorem d_X10_ask_124 : q_dec prog_12_method_45_code 124 (.dup2) 1 125 := ⟨by decide +kernel, rfl⟩
theorem d_X10_ask_125 : q_dec prog_12_method_45_code 125 (.iaload) 1 126 := ⟨by decide +kernel, rfl⟩
theorem d_X10_ask_126 : q_dec prog_12_method_45_code 126 (.iconst 1) 1 127 := ⟨by decide +kernel, rfl⟩
theorem d_X10_ask_127 : q_dec prog_12_method_45_code 127 (.iadd) 1 128 := ⟨by decide +kernel, rfl⟩
theorem d_X10_ask_128 : q_dec prog_12_method_45_code 128 (.iastore) 1 129 := ⟨by decide +kernel, rfl⟩
theorem d_X10_ask_129 : q_dec prog_12_method_45_code 129 (.aload_n 0) 1 130 := ⟨by decide +kernel, rfl⟩
theorem d_X10_ask_130 : q_dec prog_12_method_45_code 130 (.getfield 38) 3 133 := ⟨by decide +kernel, rfl⟩
theorem d_X10_ask_133 : q_dec prog_12_method_45_code 133 (.iload 8) 2 135 := ⟨by decide +kernel, rfl⟩
theorem d_X10_ask_135 : q_dec prog_12_method_45_code 135 (.iaload) 1 136 := ⟨by decide +kernel, rfl⟩
theorem d_X10_ask_136 : q_dec prog_12_method_45_code 136 (.iload 6) 2 138 := ⟨by decide +kernel, rfl⟩
theorem d_X10_ask_138 : q_dec prog_12_method_45_code 138 (.if_icmp .le 13) 3 141 := ⟨by decide +kernel, rfl⟩
theorem d_X10_ask_141 : q_dec prog_12_method_45_code 141 (.aload_n 0) 1 142 := ⟨by decide +kernel, rfl⟩
theorem d_X10_ask_142 : q_dec prog_12_method_45_code 142 (.getfield 38) 3 145 := ⟨by decide +kernel, rfl⟩
theorem d_X10_ask_145 : q_dec prog_12_method_45_code 145 (.iload 8) 2 147 := ⟨by decide +kernel, rfl⟩
theorem d_X10_ask_147 : q_dec prog_12_method_45_code 147 (.iaload) 1 148 := ⟨by decide +kernel, rfl⟩
theorem d_X10_ask_148 : q_dec prog_12_method_45_code 148 (.goto 5) 3 151 := ⟨by decide +kernel, rfl⟩
theorem d_X10_ask_151 : q_dec prog_12_method_45_code 151 (.iload 6) 2 153 := ⟨by decide +kernel, rfl⟩
theorem d_X10_ask_153 : q_dec prog_12_method_45_code 153 (.istore 6) 2 155 := ⟨by decide +kernel, rfl⟩
theorem d_X10_ask_155 : q_dec prog_12_method_45_code 155 (.iinc 7 1) 3 158 := ⟨by decide +kernel, rfl⟩
theorem d_X10_ask_158 : q_dec prog_12_method_45_code 158 (.goto (-60)) 3 161 := ⟨by decide +kernel, rfl⟩
theorem d_X10_ask_161 : q_dec prog_12_method_45_code 161 (.iload 6) 2 163 := ⟨by decide +kernel, rfl⟩
theorem d_X10_ask_163 : q_dec prog_12_method_45_code 163 (.iload 4) 2 165 := ⟨by decide +kernel, rfl⟩
theorem d_X10_ask_165 : q_dec prog_12_method_45_code 165 (.if_icmp .ge 8) 3 168 := ⟨by decide +kernel, rfl⟩
theorem d_X10_ask_168 : q_dec prog_12_method_45_code 168 (.iload 5) 2 170 := ⟨by decide +kernel, rfl⟩
theorem d_X10_ask_170 : q_dec prog_12_method_45_code 170 (.goto 4) 3 173 := ⟨by decide +kernel, rfl⟩
theorem d_X10_ask_173 : q_dec prog_12_method_45_code 173 (.iload_n 3) 1 174 := ⟨by decide +kernel, rfl⟩
theorem d_X10_ask_174 : q_dec prog_12_method_45_code 174 (.istore_n 3) 1 175 := ⟨by decide +kernel, rfl⟩
theorem d_X10_ask_175 : q_dec prog_12_method_45_code 175 (.iload 6) 2 177 := ⟨by decide +kernel, rfl⟩
theorem d_X10_ask_177 : q_dec prog_12_method_45_code 177 (.iload 4) 2 179 := ⟨by decide +kernel, rfl⟩
theorem d_X10_ask_179 : q_dec prog_12_method_45_code 179 (.if_icmp .ge 8) 3 182 := ⟨by decide +kernel, rfl⟩
theorem d_X10_ask_182 : q_dec prog_12_method_45_code 182 (.iload 6) 2 184 := ⟨by decide +kernel, rfl⟩
theorem d_X10_ask_184 : q_dec prog_12_method_45_code 184 (.goto 5) 3 187 := ⟨by decide +kernel, rfl⟩
theorem d_X10_ask_187 : q_dec prog_12_method_45_code 187 (.iload 4) 2 189 := ⟨by decide +kernel, rfl⟩
theorem d_X10_ask_189 : q_dec prog_12_method_45_code 189 (.istore 4) 2 191 := ⟨by decide +kernel, rfl⟩
theorem d_X10_ask_191 : q_dec prog_12_method_45_code 191 (.iinc 5 1) 3 194 := ⟨by decide +kernel, rfl⟩
theorem d_X10_ask_194 : q_dec prog_12_method_45_code 194 (.goto (-137)) 3 197 := ⟨by decide +kernel, rfl⟩
theorem d_X10_ask_197 : q_dec prog_12_method_45_code 197 (.iload_n 3) 1 198 := ⟨by decide +kernel, rfl⟩
theorem d_X10_ask_198 : q_dec prog_12_method_45_code 198 (.ifCond .lt 7) 3 201 := ⟨by decide +kernel, rfl⟩
theorem d_X10_ask_201 : q_dec prog_12_method_45_code 201 (.iload_n 1) 1 202 := ⟨by decide +kernel, rfl⟩
theorem d_X10_ask_202 : q_dec prog_12_method_45_code 202 (.ifCond .ne 7) 3 205 := ⟨by decide +kernel, rfl⟩
theorem d_X10_ask_205 : q_dec prog_12_method_45_code 205 (.iload_n 3) 1 206 := ⟨by decide +kernel, rfl⟩
theorem d_X10_ask_206 : q_dec prog_12_method_45_code 206 (.goto 5) 3 209 := ⟨by decide +kernel, rfl⟩
theorem d_X10_ask_209 : q_dec prog_12_method_45_code 209 (.iload 4) 2 211 := ⟨by decide +kernel, rfl⟩
theorem d_X10_ask_211 : q_dec prog_12_method_45_code 211 (.ireturn) 1 212 := ⟨by decide +kernel, rfl⟩
theorem m_X10_ask : q_wV y_X10_ask prog_12_method_45_code 9 (some .int) 1 := ⟨q_mem 922 (by decide +kernel) (by decide +kernel), q_mem 920 (by decide +kernel) (by decide +kernel), q_mem 921 (by decide +kernel) (by decide +kernel), q_mem 11 (by decide +kernel) (by decide +kernel), by decide +kernel⟩
theorem d_X10_wins_0 : q_dec prog_12_method_46_code 0 (.iload_n 0) 1 1 := ⟨by decide +kernel, rfl⟩
theorem d_X10_wins_1 : q_dec prog_12_method_46_code 1 (.iload_n 1) 1 2 := ⟨by decide +kernel, rfl⟩
theorem d_X10_wins_2 : q_dec prog_12_method_46_code 2 (.if_icmp .le 7) 3 5 := ⟨by decide +kernel, rfl⟩
theorem d_X10_wins_5 : q_dec prog_12_method_46_code 5 (.iload_n 0) 1 6 := ⟨by decide +kernel, rfl⟩
theorem d_X10_wins_6 : q_dec prog_12_method_46_code 6 (.goto 4) 3 9 := ⟨by decide +kernel, rfl⟩
theorem d_X10_wins_9 : q_dec prog_12_method_46_code 9 (.iload_n 1) 1 10 := ⟨by decide +kernel, rfl⟩
theorem d_X10_wins_10 : q_dec prog_12_method_46_code 10 (.istore_n 2) 1 11 := ⟨by decide +kernel, rfl⟩
theorem d_X10_wins_11 : q_dec prog_12_method_46_code 11 (.iload_n 0) 1 12 := ⟨by decide +kernel, rfl⟩
theorem d_X10_wins_12 : q_dec prog_12_method_46_code 12 (.iload_n 1) 1 13 := ⟨by decide +kernel, rfl⟩
theorem d_X10_wins_13 : q_dec prog_12_method_46_code 13 (.if_icmp .le 7) 3 16 := ⟨by decide +kernel, rfl⟩
theorem d_X10_wins_16 : q_dec prog_12_method_46_code 16 (.iload_n 1) 1 17 := ⟨by decide +kernel, rfl⟩
theorem d_X10_wins_17 : q_dec prog_12_method_46_code 17 (.goto 4) 3 20 := ⟨by decide +kernel, rfl⟩
theorem d_X10_wins_20 : q_dec prog_12_method_46_code 20 (.iload_n 0) 1 21 := ⟨by decide +kernel, rfl⟩
theorem d_X10_wins_21 : q_dec prog_12_method_46_code 21 (.istore_n 3) 1 22 := ⟨by decide +kernel, rfl⟩
theorem d_X10_wins_22 : q_dec prog_12_method_46_code 22 (.iconst 1) 1 23 := ⟨by decide +kernel, rfl⟩
theorem d_X10_wins_23 : q_dec prog_12_method_46_code 23 (.istore 4) 2 25 := ⟨by decide +kernel, rfl⟩
theorem d_X10_wins_25 : q_dec prog_12_method_46_code 25 (.iload_n 3) 1 26 := ⟨by decide +kernel, rfl⟩
theorem d_X10_wins_26 : q_dec prog_12_method_46_code 26 (.ifCond .le 43) 3 29 := ⟨by decide +kernel, rfl⟩
theorem d_X10_wins_29 : q_dec prog_12_method_46_code 29 (.iload_n 2) 1 30 := ⟨by decide +kernel, rfl⟩
theorem d_X10_wins_30 : q_dec prog_12_method_46_code 30 (.iload_n 3) 1 31 := ⟨by decide +kernel, rfl⟩
theorem d_X10_wins_31 : q_dec prog_12_method_46_code 31 (.idiv) 1 32 := ⟨by decide +kernel, rfl⟩
theorem d_X10_wins_32 : q_dec prog_12_method_46_code 32 (.iconst 1) 1 33 := ⟨by decide +kernel, rfl⟩
theorem d_X10_wins_33 : q_dec prog_12_method_46_code 33 (.if_icmp .gt 8) 3 36 := ⟨by decide +kernel, rfl⟩
theorem d_X10_wins_36 : q_dec prog_12_method_46_code 36 (.iload_n 2) 1 37 := ⟨by decide +kernel, rfl⟩
theorem d_X10_wins_37 : q_dec prog_12_method_46_code 37 (.iload_n 3) 1 38 := ⟨by decide +kernel, rfl⟩
theorem d_X10_wins_38 : q_dec prog_12_method_46_code 38 (.if_icmp .ne 6) 3 41 := ⟨by decide +kernel, rfl⟩
theorem d_X10_wins_41 : q_dec prog_12_method_46_code 41 (.iload 4) 2 43 := ⟨by decide +kernel, rfl⟩
theorem d_X10_wins_43 : q_dec prog_12_method_46_code 43 (.ireturn) 1 44 := ⟨by decide +kernel, rfl⟩
theorem d_X10_wins_44 : q_dec prog_12_method_46_code 44 (.iload_n 2) 1 45 := ⟨by decide +kernel, rfl⟩
theorem d_X10_wins_45 : q_dec prog_12_method_46_code 45 (.iload_n 3) 1 46 := ⟨by decide +kernel, rfl⟩
theorem d_X10_wins_46 : q_dec prog_12_method_46_code 46 (.isub) 1 47 := ⟨by decide +kernel, rfl⟩
theorem d_X10_wins_47 : q_dec prog_12_method_46_code 47 (.istore 5) 2 49 := ⟨by decide +kernel, rfl⟩
theorem d_X10_wins_49 : q_dec prog_12_method_46_code 49 (.iload_n 3) 1 50 := ⟨by decide +kernel, rfl⟩
theorem d_X10_wins_50 : q_dec prog_12_method_46_code 50 (.istore_n 2) 1 51 := ⟨by decide +kernel, rfl⟩
theorem d_X10_wins_51 : q_dec prog_12_method_46_code 51 (.iload 5) 2 53 := ⟨by decide +kernel, rfl⟩
theorem d_X10_wins_53 : q_dec prog_12_method_46_code 53 (.istore_n 3) 1 54 := ⟨by decide +kernel, rfl⟩
theorem d_X10_wins_54 : q_dec prog_12_method_46_code 54 (.iload 4) 2 56 := ⟨by decide +kernel, rfl⟩
theorem d_X10_wins_56 : q_dec prog_12_method_46_code 56 (.ifCond .ne 7) 3 59 := ⟨by decide +kernel, rfl⟩
theorem d_X10_wins_59 : q_dec prog_12_method_46_code 59 (.iconst 1) 1 60 := ⟨by decide +kernel, rfl⟩
theorem d_X10_wins_60 : q_dec prog_12_method_46_code 60 (.goto 4) 3 63 := ⟨by decide +kernel, rfl⟩
theorem d_X10_wins_63 : q_dec prog_12_method_46_code 63 (.iconst 0) 1 64 := ⟨by decide +kernel, rfl⟩
theorem d_X10_wins_64 : q_dec prog_12_method_46_code 64 (.istore 4) 2 66 := ⟨by decide +kernel, rfl⟩
theorem d_X10_wins_66 : q_dec prog_12_method_46_code 66 (.goto (-41)) 3 69 := ⟨by decide +kernel, rfl⟩
theorem d_X10_wins_69 : q_dec prog_12_method_46_code 69 (.iload 4) 2 71 := ⟨by decide +kernel, rfl⟩
theorem d_X10_wins_71 : q_dec prog_12_method_46_code 71 (.ifCond .ne 7) 3 74 := ⟨by decide +kernel, rfl⟩
theorem d_X10_wins_74 : q_dec prog_12_method_46_code 74 (.iconst 1) 1 75 := ⟨by decide +kernel, rfl⟩
theorem d_X10_wins_75 : q_dec prog_12_method_46_code 75 (.goto 4) 3 78 := ⟨by decide +kernel, rfl⟩
theorem d_X10_wins_78 : q_dec prog_12_method_46_code 78 (.iconst 0) 1 79 := ⟨by decide +kernel, rfl⟩
theorem d_X10_wins_79 : q_dec prog_12_method_46_code 79 (.ireturn) 1 80 := ⟨by decide +kernel, rfl⟩
theorem m_X10_wins : q_wS y_X10_wins prog_12_method_46_code 6 (some .boolean) 2 := ⟨q_mem 929 (by decide +kernel) (by decide +kernel), q_mem 928 (by decide +kernel) (by decide +kernel), q_mem 11 (by decide +kernel) (by decide +kernel), by decide +kernel⟩
theorem d_X10_lengths_0 : q_dec prog_12_method_47_code 0 (.iload_n 1) 1 1 := ⟨by decide +kernel, rfl⟩
theorem d_X10_lengths_1 : q_dec prog_12_method_47_code 1 (.iconst 0) 1 2 := ⟨by decide +kernel, rfl⟩
theorem d_X10_lengths_2 : q_dec prog_12_method_47_code 2 (.bipush 99) 2 4 := ⟨by decide +kernel, rfl⟩
theorem d_X10_lengths_4 : q_dec prog_12_method_47_code 4 (.invokestatic 55) 3 7 := ⟨by decide +kernel, rfl⟩
theorem d_X10_lengths_7 : q_dec prog_12_method_47_code 7 (.ifCond .eq 22) 3 10 := ⟨by decide +kernel, rfl⟩
theorem d_X10_lengths_10 : q_dec prog_12_method_47_code 10 (.iload_n 2) 1 11 := ⟨by decide +kernel, rfl⟩
theorem d_X10_lengths_11 : q_dec prog_12_method_47_code 11 (.iconst 0) 1 12 := ⟨by decide +kernel, rfl⟩
theorem d_X10_lengths_12 : q_dec prog_12_method_47_code 12 (.bipush 99) 2 14 := ⟨by decide +kernel, rfl⟩
theorem d_X10_lengths_14 : q_dec prog_12_method_47_code 14 (.invokestatic 55) 3 17 := ⟨by decide +kernel, rfl⟩
theorem d_X10_lengths_17 : q_dec prog_12_method_47_code 17 (.ifCond .eq 12) 3 20 := ⟨by decide +kernel, rfl⟩
theorem d_X10_lengths_20 : q_dec prog_12_method_47_code 20 (.iload_n 3) 1 21 := ⟨by decide +kernel, rfl⟩
theorem d_X10_lengths_21 : q_dec prog_12_method_47_code 21 (.iconst 0) 1 22 := ⟨by decide +kernel, rfl⟩
theorem d_X10_lengths_22 : q_dec prog_12_method_47_code 22 (.iconst 1) 1 23 := ⟨by decide +kernel, rfl⟩
theorem d_X10_lengths_23 : q_dec prog_12_method_47_code 23 (.invokestatic 55) 3 26 := ⟨by decide +kernel, rfl⟩
theorem d_X10_lengths_26 : q_dec prog_12_method_47_code 26 (.ifCond .ne 6) 3 29 := ⟨by decide +kernel, rfl⟩
theorem d_X10_lengths_29 : q_dec prog_12_method_47_code 29 (.bipush (-2)) 2 31 := ⟨by decide +kernel, rfl⟩
theorem d_X10_lengths_31 : q_dec prog_12_method_47_code 31 (.ireturn) 1 32 := ⟨by decide +kernel, rfl⟩
theorem d_X10_lengths_32 : q_dec prog_12_method_47_code 32 (.iload_n 1) 1 33 := ⟨by decide +kernel, rfl⟩
theorem d_X10_lengths_33 : q_dec prog_12_method_47_code 33 (.iload_n 2) 1 34 := ⟨by decide +kernel, rfl⟩
theorem d_X10_lengths_34 : q_dec prog_12_method_47_code 34 (.if_icmp .le 7) 3 37 := ⟨by decide +kernel, rfl⟩
theorem d_X10_lengths_37 : q_dec prog_12_method_47_code 37 (.iload_n 1) 1 38 := ⟨by decide +kernel, rfl⟩
theorem d_X10_lengths_38 : q_dec prog_12_method_47_code 38 (.goto 4) 3 41 := ⟨by decide +kernel, rfl⟩
theorem d_X10_lengths_41 : q_dec prog_12_method_47_code 41 (.iload_n 2) 1 42 := ⟨by decide +kernel, rfl⟩
theorem d_X10_lengths_42 : q_dec prog_12_method_47_code 42 (.istore 4) 2 44 := ⟨by decide +kernel, rfl⟩
theorem d_X10_lengths_44 : q_dec prog_12_method_47_code 44 (.iload_n 1) 1 45 := ⟨by decide +kernel, rfl⟩
theorem d_X10_lengths_45 : q_dec prog_12_method_47_code 45 (.iload_n 2) 1 46 := ⟨by decide +kernel, rfl⟩
theorem d_X10_lengths_46 : q_dec prog_12_method_47_code 46 (.if_icmp .le 7) 3 49 := ⟨by decide +kernel, rfl⟩
theorem d_X10_lengths_49 : q_dec prog_12_method_47_code 49 (.iload_n 2) 1 50 := ⟨by decide +kernel, rfl⟩
theorem d_X10_lengths_50 : q_dec prog_12_method_47_code 50 (.goto 4) 3 53 := ⟨by decide +kernel, rfl⟩
theorem d_X10_lengths_53 : q_dec prog_12_method_47_code 53 (.iload_n 1) 1 54 := ⟨by decide +kernel, rfl⟩
theorem d_X10_lengths_54 : q_dec prog_12_method_47_code 54 (.istore 5) 2 56 := ⟨by decide +kernel, rfl⟩
theorem d_X10_lengths_56 : q_dec prog_12_method_47_code 56 (.bipush (-6)) 2 58 := ⟨by decide +kernel, rfl⟩
theorem d_X10_lengths_58 : q_dec prog_12_method_47_code 58 (.istore 6) 2 60 := ⟨by decide +kernel, rfl⟩
theorem d_X10_lengths_60 : q_dec prog_12_method_47_code 60 (.iload 5) 2 62 := ⟨by decide +kernel, rfl⟩
theorem d_X10_lengths_62 : q_dec prog_12_method_47_code 62 (.ifCond .ne 7) 3 65 := ⟨by decide +kernel, rfl⟩
theorem d_X10_lengths_65 : q_dec prog_12_method_47_code 65 (.iconst 0) 1 66 := ⟨by decide +kernel, rfl⟩
theorem d_X10_lengths_66 : q_dec prog_12_method_47_code 66 (.goto 8) 3 69 := ⟨by decide +kernel, rfl⟩
theorem d_X10_lengths_69 : q_dec prog_12_method_47_code 69 (.iload 4) 2 71 := ⟨by decide +kernel, rfl⟩
theorem d_X10_lengths_71 : q_dec prog_12_method_47_code 71 (.iload 5) 2 73 := ⟨by decide +kernel, rfl⟩
theorem d_X10_lengths_73 : q_dec prog_12_method_47_code 73 (.idiv) 1 74 := ⟨by decide +kernel, rfl⟩
theorem d_X10_lengths_74 : q_dec prog_12_method_47_code 74 (.istore 7) 2 76 := ⟨by decide +kernel, rfl⟩
theorem d_X10_lengths_76 : q_dec prog_12_method_47_code 76 (.iload 7) 2 78 := ⟨by decide +kernel, rfl⟩
theorem d_X10_lengths_78 : q_dec prog_12_method_47_code 78 (.ifCond .le 43) 3 81 := ⟨by decide +kernel, rfl⟩
theorem d_X10_lengths_81 : q_dec prog_12_method_47_code 81 (.iload 4) 2 83 := ⟨by decide +kernel, rfl⟩
theorem d_X10_lengths_83 : q_dec prog_12_method_47_code 83 (.iload 7) 2 85 := ⟨by decide +kernel, rfl⟩
theorem d_X10_lengths_85 : q_dec prog_12_method_47_code 85 (.iload 5) 2 87 := ⟨by decide +kernel, rfl⟩
theorem d_X10_lengths_87 : q_dec prog_12_method_47_code 87 (.imul) 1 88 := ⟨by decide +kernel, rfl⟩
theorem d_X10_lengths_88 : q_dec prog_12_method_47_code 88 (.isub) 1 89 := ⟨by decide +kernel, rfl⟩
theorem d_X10_lengths_89 : q_dec prog_12_method_47_code 89 (.istore 8) 2 91 := ⟨by decide +kernel, rfl⟩
theorem d_X10_lengths_91 : q_dec prog_12_method_47_code 91 (.iload 8) 2 93 := ⟨by decide +kernel, rfl⟩
theorem d_X10_lengths_93 : q_dec prog_12_method_47_code 93 (.ifCond .eq 13) 3 96 := ⟨by decide +kernel, rfl⟩
theorem d_X10_lengths_96 : q_dec prog_12_method_47_code 96 (.iload 8) 2 98 := ⟨by decide +kernel, rfl⟩
theorem d_X10_lengths_98 : q_dec prog_12_method_47_code 98 (.iload 5) 2 100 := ⟨by decide +kernel, rfl⟩
theorem d_X10_lengths_100 : q_dec prog_12_method_47_code 100 (.invokestatic 164) 3 103 := ⟨by decide +kernel, rfl⟩
theorem d_X10_lengths_103 : q_dec prog_12_method_47_code 103 (.ifCond .ne 8) 3 106 := ⟨by decide +kernel, rfl⟩
theorem d_X10_lengths_106 : q_dec prog_12_method_47_code 106 (.iload 7) 2 108 := ⟨by decide +kernel, rfl⟩
theorem d_X10_lengths_108 : q_dec prog_12_method_47_code 108 (.goto 5) 3 111 := ⟨by decide +kernel, rfl⟩
theorem d_X10_lengths_111 : q_dec prog_12_method_47_code 111 (.iload 6) 2 113 := ⟨by decide +kernel, rfl⟩
theorem d_X10_lengths_113 : q_dec prog_12_method_47_code 113 (.istore 6) 2 115 := ⟨by decide +kernel, rfl⟩
theorem d_X10_lengths_115 : q_dec prog_12_method_47_code 115 (.iinc 7 (-1)) 3 118 := ⟨by decide +kernel, rfl⟩
theorem d_X10_lengths_118 : q_dec prog_12_method_47_code 118 (.goto (-42)) 3 121 := ⟨by decide +kernel, rfl⟩
theorem d_X10_lengths_121 : q_dec prog_12_method_47_code 121 (.iload_n 3) 1 122 := ⟨by decide +kernel, rfl⟩
theorem d_X10_lengths_122 : q_dec prog_12_method_47_code 122 (.iconst 1) 1 123 := ⟨by decide +kernel, rfl⟩
theorem d_X10_lengths_123 : q_dec prog_12_method_47_code 123 (.if_icmp .ne 8) 3 126 := ⟨by decide +kernel, rfl⟩
theorem d_X10_lengths_126 : q_dec prog_12_method_47_code 126 (.iload 6) 2 128 := ⟨by decide +kernel, rfl⟩
theorem d_X10_lengths_128 : q_dec prog_12_method_47_code 128 (.goto 13) 3 131 := ⟨by decide +kernel, rfl⟩
theorem d_X10_lengths_131 : q_dec prog_12_method_47_code 131 (.iload 6) 2 133 := ⟨by decide +kernel, rfl⟩
theorem d_X10_lengths_133 : q_dec prog_12_method_47_code 133 (.ifCond .ge 7) 3 136 := ⟨by decide +kernel, rfl⟩
theorem d_X10_lengths_136 : q_dec prog_12_method_47_code 136 (.iconst 0) 1 137 := ⟨by decide +kernel, rfl⟩
theorem d_X10_lengths_137 : q_dec prog_12_method_47_code 137 (.goto 4) 3 140 := ⟨by decide +kernel, rfl⟩
theorem d_X10_lengths_140 : q_dec prog_12_method_47_code 140 (.iconst 1) 1 141 := ⟨by decide +kernel, rfl⟩
theorem d_X10_lengths_141 : q_dec prog_12_method_47_code 141 (.ireturn) 1 142 := ⟨by decide +kernel, rfl⟩
theorem m_X10_lengths : q_wV y_X10_lengths prog_12_method_47_code 9 (some .int) 3 := ⟨q_mem 926 (by decide +kernel) (by decide +kernel), q_mem 924 (by decide +kernel) (by decide +kernel), q_mem 925 (by decide +kernel) (by decide +kernel), q_mem 11 (by decide +kernel) (by decide +kernel), by decide +kernel⟩
theorem d_X10_calm_0 : q_dec prog_12_method_48_code 0 (.iload_n 1) 1 1 := ⟨by decide +kernel, rfl⟩
theorem d_X10_calm_1 : q_dec prog_12_method_48_code 1 (.iconst 0) 1 2 := ⟨by decide +kernel, rfl⟩
theorem d_X10_calm_2 : q_dec prog_12_method_48_code 2 (.bipush 15) 2 4 := ⟨by decide +kernel, rfl⟩
theorem d_X10_calm_4 : q_dec prog_12_method_48_code 4 (.invokestatic 55) 3 7 := ⟨by decide +kernel, rfl⟩
theorem d_X10_calm_7 : q_dec prog_12_method_48_code 7 (.ifCond .eq 43) 3 10 := ⟨by decide +kernel, rfl⟩
theorem d_X10_calm_10 : q_dec prog_12_method_48_code 10 (.iload_n 2) 1 11 := ⟨by decide +kernel, rfl⟩
theorem d_X10_calm_11 : q_dec prog_12_method_48_code 11 (.iconst 0) 1 12 := ⟨by decide +kernel, rfl⟩
theorem d_X10_calm_12 : q_dec prog_12_method_48_code 12 (.bipush 10) 2 14 := ⟨by decide +kernel, rfl⟩
theorem d_X10_calm_14 : q_dec prog_12_method_48_code 14 (.invokestatic 55) 3 17 := ⟨by decide +kernel, rfl⟩
theorem d_X10_calm_17 : q_dec prog_12_method_48_code 17 (.ifCond .eq 33) 3 20 := ⟨by decide +kernel, rfl⟩
theorem d_X10_calm_20 : q_dec prog_12_method_48_code 20 (.iload_n 3) 1 21 := ⟨by decide +kernel, rfl⟩
theorem d_X10_calm_21 : q_dec prog_12_method_48_code 21 (.iconst 0) 1 22 := ⟨by decide +kernel, rfl⟩
theorem d_X10_calm_22 : q_dec prog_12_method_48_code 22 (.bipush 15) 2 24 := ⟨by decide +kernel, rfl⟩
theorem d_X10_calm_24 : q_dec prog_12_method_48_code 24 (.invokestatic 55) 3 27 := ⟨by decide +kernel, rfl⟩
theorem d_X10_calm_27 : q_dec prog_12_method_48_code 27 (.ifCond .eq 23) 3 30 := ⟨by decide +kernel, rfl⟩
theorem d_X10_calm_30 : q_dec prog_12_method_48_code 30 (.iload 4) 2 32 := ⟨by decide +kernel, rfl⟩
theorem d_X10_calm_32 : q_dec prog_12_method_48_code 32 (.iconst 0) 1 33 := ⟨by decide +kernel, rfl⟩
theorem d_X10_calm_33 : q_dec prog_12_method_48_code 33 (.iconst 1) 1 34 := ⟨by decide +kernel, rfl⟩
theorem d_X10_calm_34 : q_dec prog_12_method_48_code 34 (.invokestatic 55) 3 37 := ⟨by decide +kernel, rfl⟩
theorem d_X10_calm_37 : q_dec prog_12_method_48_code 37 (.ifCond .eq 13) 3 40 := ⟨by decide +kernel, rfl⟩
theorem d_X10_calm_40 : q_dec prog_12_method_48_code 40 (.iload 5) 2 42 := ⟨by decide +kernel, rfl⟩
theorem d_X10_calm_42 : q_dec prog_12_method_48_code 42 (.iconst 0) 1 43 := ⟨by decide +kernel, rfl⟩
theorem d_X10_calm_43 : q_dec prog_12_method_48_code 43 (.iconst 1) 1 44 := ⟨by decide +kernel, rfl⟩
theorem d_X10_calm_44 : q_dec prog_12_method_48_code 44 (.invokestatic 55) 3 47 := ⟨by decide +kernel, rfl⟩
theorem d_X10_calm_47 : q_dec prog_12_method_48_code 47 (.ifCond .ne 7) 3 50 := ⟨by decide +kernel, rfl⟩
theorem d_X10_calm_50 : q_dec prog_12_method_48_code 50 (.ldc2_w 167) 3 53 := ⟨by decide +kernel, rfl⟩
theorem d_X10_calm_53 : q_dec prog_12_method_48_code 53 (.lreturn) 1 54 := ⟨by decide +kernel, rfl⟩
theorem d_X10_calm_54 : q_dec prog_12_method_48_code 54 (.lconst 1) 1 55 := ⟨by decide +kernel, rfl⟩
theorem d_X10_calm_55 : q_dec prog_12_method_48_code 55 (.lstore 6) 2 57 := ⟨by decide +kernel, rfl⟩
theorem d_X10_calm_57 : q_dec prog_12_method_48_code 57 (.iconst 0) 1 58 := ⟨by decide +kernel, rfl⟩
theorem d_X10_calm_58 : q_dec prog_12_method_48_code 58 (.istore 8) 2 60 := ⟨by decide +kernel, rfl⟩
theorem d_X10_calm_60 : q_dec prog_12_method_48_code 60 (.iload 8) 2 62 := ⟨by decide +kernel, rfl⟩
theorem d_X10_calm_62 : q_dec prog_12_method_48_code 62 (.sipush 256) 3 65 := ⟨by decide +kernel, rfl⟩
theorem d_X10_calm_65 : q_dec prog_12_method_48_code 65 (.if_icmp .ge 26) 3 68 := ⟨by decide +kernel, rfl⟩
theorem d_X10_calm_68 : q_dec prog_12_method_48_code 68 (.aload_n 0) 1 69 := ⟨by decide +kernel, rfl⟩
theorem d_X10_calm_69 : q_dec prog_12_method_48_code 69 (.getfield 41) 3 72 := ⟨by decide +kernel, rfl⟩
theorem d_X10_calm_72 : q_dec prog_12_method_48_code 72 (.iload 8) 2 74 := ⟨by decide +kernel, rfl⟩
theorem d_X10_calm_74 : q_dec prog_12_method_48_code 74 (.iload 8) 2 76 := ⟨by decide +kernel, rfl⟩
theorem d_X10_calm_76 : q_dec prog_12_method_48_code 76 (.ifCond .ne 7) 3 79 := ⟨by decide +kernel, rfl⟩
theorem d_X10_calm_79 : q_dec prog_12_method_48_code 79 (.lconst 1) 1 80 := ⟨by decide +kernel, rfl⟩
theorem d_X10_calm_80 : q_dec prog_12_method_48_code 80 (.goto 4) 3 83 := ⟨by decide +kernel, rfl⟩
theorem d_X10_calm_83 : q_dec prog_12_method_48_code 83 (.lconst 0) 1 84 := ⟨by decide +kernel, rfl⟩
theorem d_X10_calm_84 : q_dec prog_12_method_48_code 84 (.lastore) 1 85 := ⟨by decide +kernel, rfl⟩
theorem d_X10_calm_85 : q_dec prog_12_method_48_code 85 (.iinc 8 1) 3 88 := ⟨by decide +kernel, rfl⟩
theorem d_X10_calm_88 : q_dec prog_12_method_48_code 88 (.goto (-28)) 3 91 := ⟨by decide +kernel, rfl⟩
theorem d_X10_calm_91 : q_dec prog_12_method_48_code 91 (.iconst 0) 1 92 := ⟨by decide +kernel, rfl⟩
theorem d_X10_calm_92 : q_dec prog_12_method_48_code 92 (.istore 8) 2 94 := ⟨by decide +kernel, rfl⟩
theorem d_X10_calm_94 : q_dec prog_12_method_48_code 94 (.iload 8) 2 96 := ⟨by decide +kernel, rfl⟩
theorem d_X10_calm_96 : q_dec prog_12_method_48_code 96 (.iload_n 1) 1 97 := ⟨by decide +kernel, rfl⟩
theorem d_X10_calm_97 : q_dec prog_12_method_48_code 97 (.if_icmp .ge 190) 3 100 := ⟨by decide +kernel, rfl⟩
theorem d_X10_calm_100 : q_dec prog_12_method_48_code 100 (.lload 6) 2 102 := ⟨by decide +kernel, rfl⟩
theorem d_X10_calm_102 : q_dec prog_12_method_48_code 102 (.ldc2_w 169) 3 105 := ⟨by decide +kernel, rfl⟩
theorem d_X10_calm_105 : q_dec prog_12_method_48_code 105 (.lmul) 1 106 := ⟨by decide +kernel, rfl⟩
theorem d_X10_calm_106 : q_dec prog_12_method_48_code 106 (.lstore 6) 2 108 := ⟨by decide +kernel, rfl⟩
theorem d_X10_calm_108 : q_dec prog_12_method_48_code 108 (.iconst 0) 1 109 := ⟨by decide +kernel, rfl⟩
theorem d_X10_calm_109 : q_dec prog_12_method_48_code 109 (.istore 9) 2 111 := ⟨by decide +kernel, rfl⟩
theorem d_X10_calm_111 : q_dec prog_12_method_48_code 111 (.iload 9) 2 113 := ⟨by decide +kernel, rfl⟩
theorem d_X10_calm_113 : q_dec prog_12_method_48_code 113 (.sipush 256) 3 116 := ⟨by decide +kernel, rfl⟩
theorem d_X10_calm_116 : q_dec prog_12_method_48_code 116 (.if_icmp .ge 17) 3 119 := ⟨by decide +kernel, rfl⟩
theorem d_X10_calm_119 : q_dec prog_12_method_48_code 119 (.aload_n 0) 1 120 := ⟨by decide +kernel, rfl⟩
theorem d_X10_calm_120 : q_dec prog_12_method_48_code 120 (.getfield 45) 3 123 := ⟨by decide +kernel, rfl⟩
theorem d_X10_calm_123 : q_dec prog_12_method_48_code 123 (.iload 9) 2 125 := ⟨by decide +kernel, rfl⟩
theorem d_X10_calm_125 : q_dec prog_12_method_48_code 125 (.lconst 0) 1 126 := ⟨by decide +kernel, rfl⟩
theorem d_X10_calm_126 : q_dec prog_12_method_48_code 126 (.lastore) 1 127 := ⟨by decide +kernel, rfl⟩
theorem d_X10_calm_127 : q_dec prog_12_method_48_code 127 (.iinc 9 1) 3 130 := ⟨by decide +kernel, rfl⟩
theorem d_X10_calm_130 : q_dec prog_12_method_48_code 130 (.goto (-19)) 3 133 := ⟨by decide +kernel, rfl⟩
theorem d_X10_calm_133 : q_dec prog_12_method_48_code 133 (.iconst 0) 1 134 := ⟨by decide +kernel, rfl⟩
theorem d_X10_calm_134 : q_dec prog_12_method_48_code 134 (.istore 9) 2 136 := ⟨by decide +kernel, rfl⟩
theorem d_X10_calm_136 : q_dec prog_12_method_48_code 136 (.iload 9) 2 138 := ⟨by decide +kernel, rfl⟩
theorem d_X10_calm_138 : q_dec prog_12_method_48_code 138 (.sipush 256) 3 141 := ⟨by decide +kernel, rfl⟩
theorem d_X10_calm_141 : q_dec prog_12_method_48_code 141 (.if_icmp .ge 109) 3 144 := ⟨by decide +kernel, rfl⟩
theorem d_X10_calm_144 : q_dec prog_12_method_48_code 144 (.iload 9) 2 146 := ⟨by decide +kernel, rfl⟩
theorem d_X10_calm_146 : q_dec prog_12_method_48_code 146 (.bipush 16) 2 148 := ⟨by decide +kernel, rfl⟩
theorem d_X10_calm_148 : q_dec prog_12_method_48_code 148 (.idiv) 1 149 := ⟨by decide +kernel, rfl⟩
theorem d_X10_calm_149 : q_dec prog_12_method_48_code 149 (.istore 10) 2 151 := ⟨by decide +kernel, rfl⟩
theorem d_X10_calm_151 : q_dec prog_12_method_48_code 151 (.iload 9) 2 153 := ⟨by decide +kernel, rfl⟩
theorem d_X10_calm_153 : q_dec prog_12_method_48_code 153 (.bipush 16) 2 155 := ⟨by decide +kernel, rfl⟩
theorem d_X10_calm_155 : q_dec prog_12_method_48_code 155 (.irem) 1 156 := ⟨by decide +kernel, rfl⟩
theorem d_X10_calm_156 : q_dec prog_12_method_48_code 156 (.istore 11) 2 158 := ⟨by decide +kernel, rfl⟩
theorem d_X10_calm_158 : q_dec prog_12_method_48_code 158 (.aload_n 0) 1 159 := ⟨by decide +kernel, rfl⟩
theorem d_X10_calm_159 : q_dec prog_12_method_48_code 159 (.getfield 41) 3 162 := ⟨by decide +kernel, rfl⟩
theorem d_X10_calm_162 : q_dec prog_12_method_48_code 162 (.iload 9) 2 164 := ⟨by decide +kernel, rfl⟩
theorem d_X10_calm_164 : q_dec prog_12_method_48_code 164 (.laload) 1 165 := ⟨by decide +kernel, rfl⟩
theorem d_X10_calm_165 : q_dec prog_12_method_48_code 165 (.lconst 0) 1 166 := ⟨by decide +kernel, rfl⟩
theorem d_X10_calm_166 : q_dec prog_12_method_48_code 166 (.lcmp) 1 167 := ⟨by decide +kernel, rfl⟩
theorem d_X10_calm_167 : q_dec prog_12_method_48_code 167 (.ifCond .le 77) 3 170 := ⟨by decide +kernel, rfl⟩
theorem d_X10_calm_170 : q_dec prog_12_method_48_code 170 (.iload 11) 2 172 := ⟨by decide +kernel, rfl⟩
theorem d_X10_calm_172 : q_dec prog_12_method_48_code 172 (.iconst 1) 1 173 := ⟨by decide +kernel, rfl⟩
theorem d_X10_calm_173 : q_dec prog_12_method_48_code 173 (.iadd) 1 174 := ⟨by decide +kernel, rfl⟩
theorem d_X10_calm_174 : q_dec prog_12_method_48_code 174 (.iload 10) 2 176 := ⟨by decide +kernel, rfl⟩
theorem d_X10_calm_176 : q_dec prog_12_method_48_code 176 (.if_icmp .le 10) 3 179 := ⟨by decide +kernel, rfl⟩
theorem d_X10_calm_179 : q_dec prog_12_method_48_code 179 (.iload 11) 2 181 := ⟨by decide +kernel, rfl⟩
theorem d_X10_calm_181 : q_dec prog_12_method_48_code 181 (.iconst 1) 1 182 := ⟨by decide +kernel, rfl⟩
theorem d_X10_calm_182 : q_dec prog_12_method_48_code 182 (.iadd) 1 183 := ⟨by decide +kernel, rfl⟩
theorem d_X10_calm_183 : q_dec prog_12_method_48_code 183 (.goto 5) 3 186 := ⟨by decide +kernel, rfl⟩
theorem d_X10_calm_186 : q_dec prog_12_method_48_code 186 (.iload 10) 2 188 := ⟨by decide +kernel, rfl⟩
theorem d_X10_calm_188 : q_dec prog_12_method_48_code 188 (.istore 12) 2 190 := ⟨by decide +kernel, rfl⟩
theorem d_X10_calm_190 : q_dec prog_12_method_48_code 190 (.aload_n 0) 1 191 := ⟨by decide +kernel, rfl⟩
theorem d_X10_calm_191 : q_dec prog_12_method_48_code 191 (.getfield 45) 3 194 := ⟨by decide +kernel, rfl⟩
theorem d_X10_calm_194 : q_dec prog_12_method_48_code 194 (.bipush 16) 2 196 := ⟨by decide +kernel, rfl⟩
theorem d_X10_calm_196 : q_dec prog_12_method_48_code 196 (.iload 12) 2 198 := ⟨by decide +kernel, rfl⟩
theorem d_X10_calm_198 : q_dec prog_12_method_48_code 198 (.imul) 1 199 := ⟨by decide +kernel, rfl⟩
theorem d_X10_calm_199 : q_dec prog_12_method_48_code 199 (.iload 11) 2 201 := ⟨by decide +kernel, rfl⟩
theorem d_X10_calm_201 : q_dec prog_12_method_48_code 201 (.iadd) 1 202 := ⟨by decide +kernel, rfl⟩
theorem d_X10_calm_202 : q_dec prog_12_method_48_code 202 (.iconst 1) 1 203 := ⟨by decide +kernel, rfl⟩
theorem d_X10_calm_203 : q_dec prog_12_method_48_code 203 (.iadd) 1 204 := ⟨by decide +kernel, rfl⟩
theorem d_X10_calm_204 : q_dec prog_12_method_48_code 204 (.dup2) 1 205 := ⟨by decide +kernel, rfl⟩
theorem d_X10_calm_205 : q_dec prog_12_method_48_code 205 (.laload) 1 206 := ⟨by decide +kernel, rfl⟩
theorem d_X10_calm_206 : q_dec prog_12_method_48_code 206 (.aload_n 0) 1 207 := ⟨by decide +kernel, rfl⟩
theorem d_X10_calm_207 : q_dec prog_12_method_48_code 207 (.getfield 41) 3 210 := ⟨by decide +kernel, rfl⟩
theorem d_X10_calm_210 : q_dec prog_12_method_48_code 210 (.iload 9) 2 212 := ⟨by decide +kernel, rfl⟩
theorem d_X10_calm_212 : q_dec prog_12_method_48_code 212 (.laload) 1 213 := ⟨by decide +kernel, rfl⟩
theorem d_X10_calm_213 : q_dec prog_12_method_48_code 213 (.iload_n 2) 1 214 := ⟨by decide +kernel, rfl⟩
theorem d_X10_calm_214 : q_dec prog_12_method_48_code 214 (.i2l) 1 215 := ⟨by decide +kernel, rfl⟩
theorem d_X10_calm_215 : q_dec prog_12_method_48_code 215 (.lmul) 1 216 := ⟨by decide +kernel, rfl⟩
theorem d_X10_calm_216 : q_dec prog_12_method_48_code 216 (.ladd) 1 217 := ⟨by decide +kernel, rfl⟩
theorem d_X10_calm_217 : q_dec prog_12_method_48_code 217 (.lastore) 1 218 := ⟨by decide +kernel, rfl⟩
theorem d_X10_calm_218 : q_dec prog_12_method_48_code 218 (.aload_n 0) 1 219 := ⟨by decide +kernel, rfl⟩
theorem d_X10_calm_219 : q_dec prog_12_method_48_code 219 (.getfield 45) 3 222 := ⟨by decide +kernel, rfl⟩
theorem d_X10_calm_222 : q_dec prog_12_method_48_code 222 (.bipush 16) 2 224 := ⟨by decide +kernel, rfl⟩
theorem d_X10_calm_224 : q_dec prog_12_method_48_code 224 (.iload 10) 2 226 := ⟨by decide +kernel, rfl⟩
theorem d_X10_calm_226 : q_dec prog_12_method_48_code 226 (.imul) 1 227 := ⟨by decide +kernel, rfl⟩
theorem d_X10_calm_227 : q_dec prog_12_method_48_code 227 (.dup2) 1 228 := ⟨by decide +kernel, rfl⟩
theorem d_X10_calm_228 : q_dec prog_12_method_48_code 228 (.laload) 1 229 := ⟨by decide +kernel, rfl⟩
theorem d_X10_calm_229 : q_dec prog_12_method_48_code 229 (.aload_n 0) 1 230 := ⟨by decide +kernel, rfl⟩
theorem d_X10_calm_230 : q_dec prog_12_method_48_code 230 (.getfield 41) 3 233 := ⟨by decide +kernel, rfl⟩
theorem d_X10_calm_233 : q_dec prog_12_method_48_code 233 (.iload 9) 2 235 := ⟨by decide +kernel, rfl⟩
theorem d_X10_calm_235 : q_dec prog_12_method_48_code 235 (.laload) 1 236 := ⟨by decide +kernel, rfl⟩
theorem d_X10_calm_236 : q_dec prog_12_method_48_code 236 (.bipush 10) 2 238 := ⟨by decide +kernel, rfl⟩
theorem d_X10_calm_238 : q_dec prog_12_method_48_code 238 (.iload_n 2) 1 239 := ⟨by decide +kernel, rfl⟩
theorem d_X10_calm_239 : q_dec prog_12_method_48_code 239 (.isub) 1 240 := ⟨by decide +kernel, rfl⟩
theorem d_X10_calm_240 : q_dec prog_12_method_48_code 240 (.i2l) 1 241 := ⟨by decide +kernel, rfl⟩
theorem d_X10_calm_241 : q_dec prog_12_method_48_code 241 (.lmul) 1 242 := ⟨by decide +kernel, rfl⟩
theorem d_X10_calm_242 : q_dec prog_12_method_48_code 242 (.ladd) 1 243 := ⟨by decide +kernel, rfl⟩
theorem d_X10_calm_243 : q_dec prog_12_method_48_code 243 (.lastore) 1 244 := ⟨by decide +kernel, rfl⟩
theorem d_X10_calm_244 : q_dec prog_12_method_48_code 244 (.iinc 9 1) 3 247 := ⟨by decide +kernel, rfl⟩
theorem d_X10_calm_247 : q_dec prog_12_method_48_code 247 (.goto (-111)) 3 250 := ⟨by decide +kernel, rfl⟩
theorem d_X10_calm_250 : q_dec prog_12_method_48_code 250 (.iconst 0) 1 251 := ⟨by decide +kernel, rfl⟩
theorem d_X10_calm_251 : q_dec prog_12_method_48_code 251 (.istore 9) 2 253 := ⟨by decide +kernel, rfl⟩
theorem d_X10_calm_253 : q_dec prog_12_method_48_code 253 (.iload 9) 2 255 := ⟨by decide +kernel, rfl⟩
theorem d_X10_calm_255 : q_dec prog_12_method_48_code 255 (.sipush 256) 3 258 := ⟨by decide +kernel, rfl⟩
theorem d_X10_calm_258 : q_dec prog_12_method_48_code 258 (.if_icmp .ge 23) 3 261 := ⟨by decide +kernel, rfl⟩
theorem d_X10_calm_261 : q_dec prog_12_method_48_code 261 (.aload_n 0) 1 262 := ⟨by decide +kernel, rfl⟩
theorem d_X10_calm_262 : q_dec prog_12_method_48_code 262 (.getfield 41) 3 265 := ⟨by decide +kernel, rfl⟩
theorem d_X10_calm_265 : q_dec prog_12_method_48_code 265 (.iload 9) 2 267 := ⟨by decide +kernel, rfl⟩
theorem d_X10_calm_267 : q_dec prog_12_method_48_code 267 (.aload_n 0) 1 268 := ⟨by decide +kernel, rfl⟩
theorem d_X10_calm_268 : q_dec prog_12_method_48_code 268 (.getfield 45) 3 271 := ⟨by decide +kernel, rfl⟩
theorem d_X10_calm_271 : q_dec prog_12_method_48_code 271 (.iload 9) 2 273 := ⟨by decide +kernel, rfl⟩
theorem d_X10_calm_273 : q_dec prog_12_method_48_code 273 (.laload) 1 274 := ⟨by decide +kernel, rfl⟩
theorem d_X10_calm_274 : q_dec prog_12_method_48_code 274 (.lastore) 1 275 := ⟨by decide +kernel, rfl⟩
theorem d_X10_calm_275 : q_dec prog_12_method_48_code 275 (.iinc 9 1) 3 278 := ⟨by decide +kernel, rfl⟩
theorem d_X10_calm_278 : q_dec prog_12_method_48_code 278 (.goto (-25)) 3 281 := ⟨by decide +kernel, rfl⟩
theorem d_X10_calm_281 : q_dec prog_12_method_48_code 281 (.iinc 8 1) 3 284 := ⟨by decide +kernel, rfl⟩
theorem d_X10_calm_284 : q_dec prog_12_method_48_code 284 (.goto (-190)) 3 287 := ⟨by decide +kernel, rfl⟩
theorem d_X10_calm_287 : q_dec prog_12_method_48_code 287 (.lconst 0) 1 288 := ⟨by decide +kernel, rfl⟩
theorem d_X10_calm_288 : q_dec prog_12_method_48_code 288 (.lstore 8) 2 290 := ⟨by decide +kernel, rfl⟩
theorem d_X10_calm_290 : q_dec prog_12_method_48_code 290 (.iconst 0) 1 291 := ⟨by decide +kernel, rfl⟩
theorem d_X10_calm_291 : q_dec prog_12_method_48_code 291 (.istore 10) 2 293 := ⟨by decide +kernel, rfl⟩
theorem d_X10_calm_293 : q_dec prog_12_method_48_code 293 (.iload 10) 2 295 := ⟨by decide +kernel, rfl⟩
theorem d_X10_calm_295 : q_dec prog_12_method_48_code 295 (.sipush 256) 3 298 := ⟨by decide +kernel, rfl⟩
theorem d_X10_calm_298 : q_dec prog_12_method_48_code 298 (.if_icmp .ge 57) 3 301 := ⟨by decide +kernel, rfl⟩
theorem d_X10_calm_301 : q_dec prog_12_method_48_code 301 (.lload 8) 2 303 := ⟨by decide +kernel, rfl⟩
theorem d_X10_calm_303 : q_dec prog_12_method_48_code 303 (.iload 4) 2 305 := ⟨by decide +kernel, rfl⟩
theorem d_X10_calm_305 : q_dec prog_12_method_48_code 305 (.iconst 1) 1 306 := ⟨by decide +kernel, rfl⟩
theorem d_X10_calm_306 : q_dec prog_12_method_48_code 306 (.if_icmp .ne 20) 3 309 := ⟨by decide +kernel, rfl⟩
theorem d_X10_calm_309 : q_dec prog_12_method_48_code 309 (.iload 10) 2 311 := ⟨by decide +kernel, rfl⟩
theorem d_X10_calm_311 : q_dec prog_12_method_48_code 311 (.bipush 16) 2 313 := ⟨by decide +kernel, rfl⟩
theorem d_X10_calm_313 : q_dec prog_12_method_48_code 313 (.idiv) 1 314 := ⟨by decide +kernel, rfl⟩
theorem d_X10_calm_314 : q_dec prog_12_method_48_code 314 (.i2l) 1 315 := ⟨by decide +kernel, rfl⟩
theorem d_X10_calm_315 : q_dec prog_12_method_48_code 315 (.aload_n 0) 1 316 := ⟨by decide +kernel, rfl⟩
theorem d_X10_calm_316 : q_dec prog_12_method_48_code 316 (.getfield 41) 3 319 := ⟨by decide +kernel, rfl⟩
theorem d_X10_calm_319 : q_dec prog_12_method_48_code 319 (.iload 10) 2 321 := ⟨by decide +kernel, rfl⟩
theorem d_X10_calm_321 : q_dec prog_12_method_48_code 321 (.laload) 1 322 := ⟨by decide +kernel, rfl⟩
theorem d_X10_calm_322 : q_dec prog_12_method_48_code 322 (.lmul) 1 323 := ⟨by decide +kernel, rfl⟩
theorem d_X10_calm_323 : q_dec prog_12_method_48_code 323 (.goto 23) 3 326 := ⟨by decide +kernel, rfl⟩
theorem d_X10_calm_326 : q_dec prog_12_method_48_code 326 (.iload 10) 2 328 := ⟨by decide +kernel, rfl⟩
theorem d_X10_calm_328 : q_dec prog_12_method_48_code 328 (.bipush 16) 2 330 := ⟨by decide +kernel, rfl⟩
theorem d_X10_calm_330 : q_dec prog_12_method_48_code 330 (.idiv) 1 331 := ⟨by decide +kernel, rfl⟩
theorem d_X10_calm_331 : q_dec prog_12_method_48_code 331 (.iload_n 3) 1 332 := ⟨by decide +kernel, rfl⟩
theorem d_X10_calm_332 : q_dec prog_12_method_48_code 332 (.if_icmp .lt 13) 3 335 := ⟨by decide +kernel, rfl⟩
theorem d_X10_calm_335 : q_dec prog_12_method_48_code 335 (.aload_n 0) 1 336 := ⟨by decide +kernel, rfl⟩
theorem d_X10_calm_336 : q_dec prog_12_method_48_code 336 (.getfield 41) 3 339 := ⟨by decide +kernel, rfl⟩
theorem d_X10_calm_339 : q_dec prog_12_method_48_code 339 (.iload 10) 2 341 := ⟨by decide +kernel, rfl⟩
theorem d_X10_calm_341 : q_dec prog_12_method_48_code 341 (.laload) 1 342 := ⟨by decide +kernel, rfl⟩
theorem d_X10_calm_342 : q_dec prog_12_method_48_code 342 (.goto 4) 3 345 := ⟨by decide +kernel, rfl⟩
theorem d_X10_calm_345 : q_dec prog_12_method_48_code 345 (.lconst 0) 1 346 := ⟨by decide +kernel, rfl⟩
theorem d_X10_calm_346 : q_dec prog_12_method_48_code 346 (.ladd) 1 347 := ⟨by decide +kernel, rfl⟩
theorem d_X10_calm_347 : q_dec prog_12_method_48_code 347 (.lstore 8) 2 349 := ⟨by decide +kernel, rfl⟩
theorem d_X10_calm_349 : q_dec prog_12_method_48_code 349 (.iinc 10 1) 3 352 := ⟨by decide +kernel, rfl⟩
theorem d_X10_calm_352 : q_dec prog_12_method_48_code 352 (.goto (-59)) 3 355 := ⟨by decide +kernel, rfl⟩
theorem d_X10_calm_355 : q_dec prog_12_method_48_code 355 (.lload 8) 2 357 := ⟨by decide +kernel, rfl⟩
theorem d_X10_calm_357 : q_dec prog_12_method_48_code 357 (.lstore 10) 2 359 := ⟨by decide +kernel, rfl⟩
theorem d_X10_calm_359 : q_dec prog_12_method_48_code 359 (.lload 6) 2 361 := ⟨by decide +kernel, rfl⟩
theorem d_X10_calm_361 : q_dec prog_12_method_48_code 361 (.lstore 12) 2 363 := ⟨by decide +kernel, rfl⟩
theorem d_X10_calm_363 : q_dec prog_12_method_48_code 363 (.lload 12) 2 365 := ⟨by decide +kernel, rfl⟩
theorem d_X10_calm_365 : q_dec prog_12_method_48_code 365 (.lconst 0) 1 366 := ⟨by decide +kernel, rfl⟩
theorem d_X10_calm_366 : q_dec prog_12_method_48_code 366 (.lcmp) 1 367 := ⟨by decide +kernel, rfl⟩
theorem d_X10_calm_367 : q_dec prog_12_method_48_code 367 (.ifCond .eq 21) 3 370 := ⟨by decide +kernel, rfl⟩
theorem d_X10_calm_370 : q_dec prog_12_method_48_code 370 (.lload 10) 2 372 := ⟨by decide +kernel, rfl⟩
theorem d_X10_calm_372 : q_dec prog_12_method_48_code 372 (.lload 12) 2 374 := ⟨by decide +kernel, rfl⟩
theorem d_X10_calm_374 : q_dec prog_12_method_48_code 374 (.lrem) 1 375 := ⟨by decide +kernel, rfl⟩
theorem d_X10_calm_375 : q_dec prog_12_method_48_code 375 (.lstore 14) 2 377 := ⟨by decide +kernel, rfl⟩
theorem d_X10_calm_377 : q_dec prog_12_method_48_code 377 (.lload 12) 2 379 := ⟨by decide +kernel, rfl⟩
theorem d_X10_calm_379 : q_dec prog_12_method_48_code 379 (.lstore 10) 2 381 := ⟨by decide +kernel, rfl⟩
theorem d_X10_calm_381 : q_dec prog_12_method_48_code 381 (.lload 14) 2 383 := ⟨by decide +kernel, rfl⟩
theorem d_X10_calm_383 : q_dec prog_12_method_48_code 383 (.lstore 12) 2 385 := ⟨by decide +kernel, rfl⟩
theorem d_X10_calm_385 : q_dec prog_12_method_48_code 385 (.goto (-22)) 3 388 := ⟨by decide +kernel, rfl⟩
theorem d_X10_calm_388 : q_dec prog_12_method_48_code 388 (.iload 5) 2 390 := ⟨by decide +kernel, rfl⟩
theorem d_X10_calm_390 : q_dec prog_12_method_48_code 390 (.ifCond .ne 11) 3 393 := ⟨by decide +kernel, rfl⟩
theorem d_X10_calm_393 : q_dec prog_12_method_48_code 393 (.lload 8) 2 395 := ⟨by decide +kernel, rfl⟩
theorem d_X10_calm_395 : q_dec prog_12_method_48_code 395 (.lload 10) 2 397 := ⟨by decide +kernel, rfl⟩
theorem d_X10_calm_397 : q_dec prog_12_method_48_code 397 (.ldiv) 1 398 := ⟨by decide +kernel, rfl⟩
theorem d_X10_calm_398 : q_dec prog_12_method_48_code 398 (.goto 8) 3 401 := ⟨by decide +kernel, rfl⟩
theorem d_X10_calm_401 : q_dec prog_12_method_48_code 401 (.lload 6) 2 403 := ⟨by decide +kernel, rfl⟩
theorem d_X10_calm_403 : q_dec prog_12_method_48_code 403 (.lload 10) 2 405 := ⟨by decide +kernel, rfl⟩
theorem d_X10_calm_405 : q_dec prog_12_method_48_code 405 (.ldiv) 1 406 := ⟨by decide +kernel, rfl⟩
theorem d_X10_calm_406 : q_dec prog_12_method_48_code 406 (.lreturn) 1 407 := ⟨by decide +kernel, rfl⟩
theorem m_X10_calm : q_wV y_X10_calm prog_12_method_48_code 16 (some .long) 5 := ⟨q_mem 933 (by decide +kernel) (by decide +kernel), q_mem 931 (by decide +kernel) (by decide +kernel), q_mem 932 (by decide +kernel) (by decide +kernel), q_mem 11 (by decide +kernel) (by decide +kernel), by decide +kernel⟩
theorem d_X10_year_0 : q_dec prog_12_method_49_code 0 (.iload_n 1) 1 1 := ⟨by decide +kernel, rfl⟩
theorem d_X10_year_1 : q_dec prog_12_method_49_code 1 (.iconst 0) 1 2 := ⟨by decide +kernel, rfl⟩
theorem d_X10_year_2 : q_dec prog_12_method_49_code 2 (.sipush 9999) 3 5 := ⟨by decide +kernel, rfl⟩
theorem d_X10_year_5 : q_dec prog_12_method_49_code 5 (.invokestatic 55) 3 8 := ⟨by decide +kernel, rfl⟩
theorem d_X10_year_8 : q_dec prog_12_method_49_code 8 (.ifCond .eq 22) 3 11 := ⟨by decide +kernel, rfl⟩
theorem d_X10_year_11 : q_dec prog_12_method_49_code 11 (.iload_n 2) 1 12 := ⟨by decide +kernel, rfl⟩
theorem d_X10_year_12 : q_dec prog_12_method_49_code 12 (.iconst 1) 1 13 := ⟨by decide +kernel, rfl⟩
theorem d_X10_year_13 : q_dec prog_12_method_49_code 13 (.bipush 99) 2 15 := ⟨by decide +kernel, rfl⟩
theorem d_X10_year_15 : q_dec prog_12_method_49_code 15 (.invokestatic 55) 3 18 := ⟨by decide +kernel, rfl⟩
theorem d_X10_year_18 : q_dec prog_12_method_49_code 18 (.ifCond .eq 12) 3 21 := ⟨by decide +kernel, rfl⟩
theorem d_X10_year_21 : q_dec prog_12_method_49_code 21 (.iload_n 3) 1 22 := ⟨by decide +kernel, rfl⟩
theorem d_X10_year_22 : q_dec prog_12_method_49_code 22 (.iconst 0) 1 23 := ⟨by decide +kernel, rfl⟩
theorem d_X10_year_23 : q_dec prog_12_method_49_code 23 (.iconst 2) 1 24 := ⟨by decide +kernel, rfl⟩
theorem d_X10_year_24 : q_dec prog_12_method_49_code 24 (.invokestatic 55) 3 27 := ⟨by decide +kernel, rfl⟩
theorem d_X10_year_27 : q_dec prog_12_method_49_code 27 (.ifCond .ne 6) 3 30 := ⟨by decide +kernel, rfl⟩
theorem d_X10_year_30 : q_dec prog_12_method_49_code 30 (.bipush (-2)) 2 32 := ⟨by decide +kernel, rfl⟩
theorem d_X10_year_32 : q_dec prog_12_method_49_code 32 (.ireturn) 1 33 := ⟨by decide +kernel, rfl⟩
theorem d_X10_year_33 : q_dec prog_12_method_49_code 33 (.aload_n 0) 1 34 := ⟨by decide +kernel, rfl⟩
theorem d_X10_year_34 : q_dec prog_12_method_49_code 34 (.invokevirtual 117) 3 37 := ⟨by decide +kernel, rfl⟩
theorem d_X10_year_37 : q_dec prog_12_method_49_code 37 (.iload_n 1) 1 38 := ⟨by decide +kernel, rfl⟩
theorem d_X10_year_38 : q_dec prog_12_method_49_code 38 (.istore 4) 2 40 := ⟨by decide +kernel, rfl⟩
theorem d_X10_year_40 : q_dec prog_12_method_49_code 40 (.iconst 0) 1 41 := ⟨by decide +kernel, rfl⟩
theorem d_X10_year_41 : q_dec prog_12_method_49_code 41 (.istore 5) 2 43 := ⟨by decide +kernel, rfl⟩
theorem d_X10_year_43 : q_dec prog_12_method_49_code 43 (.iload 5) 2 45 := ⟨by decide +kernel, rfl⟩
theorem d_X10_year_45 : q_dec prog_12_method_49_code 45 (.iload_n 2) 1 46 := ⟨by decide +kernel, rfl⟩
theorem d_X10_year_46 : q_dec prog_12_method_49_code 46 (.if_icmp .ge 117) 3 49 := ⟨by decide +kernel, rfl⟩
theorem d_X10_year_49 : q_dec prog_12_method_49_code 49 (.bipush 75) 2 51 := ⟨by decide +kernel, rfl⟩
theorem d_X10_year_51 : q_dec prog_12_method_49_code 51 (.iload 4) 2 53 := ⟨by decide +kernel, rfl⟩
theorem d_X10_year_53 : q_dec prog_12_method_49_code 53 (.imul) 1 54 := ⟨by decide +kernel, rfl⟩
theorem d_X10_year_54 : q_dec prog_12_method_49_code 54 (.bipush 74) 2 56 := ⟨by decide +kernel, rfl⟩
theorem d_X10_year_56 : q_dec prog_12_method_49_code 56 (.iadd) 1 57 := ⟨by decide +kernel, rfl⟩
theorem d_X10_year_57 : q_dec prog_12_method_49_code 57 (.ldc 171) 2 59 := ⟨by decide +kernel, rfl⟩
theorem d_X10_year_59 : q_dec prog_12_method_49_code 59 (.irem) 1 60 := ⟨by decide +kernel, rfl⟩
theorem d_X10_year_60 : q_dec prog_12_method_49_code 60 (.istore 4) 2 62 := ⟨by decide +kernel, rfl⟩
theorem d_X10_year_62 : q_dec prog_12_method_49_code 62 (.iload 4) 2 64 := ⟨by decide +kernel, rfl⟩
theorem d_X10_year_64 : q_dec prog_12_method_49_code 64 (.bipush 6) 2 66 := ⟨by decide +kernel, rfl⟩
theorem d_X10_year_66 : q_dec prog_12_method_49_code 66 (.irem) 1 67 := ⟨by decide +kernel, rfl⟩
theorem d_X10_year_67 : q_dec prog_12_method_49_code 67 (.istore 6) 2 69 := ⟨by decide +kernel, rfl⟩
theorem d_X10_year_69 : q_dec prog_12_method_49_code 69 (.iload 4) 2 71 := ⟨by decide +kernel, rfl⟩
theorem d_X10_year_71 : q_dec prog_12_method_49_code 71 (.bipush 6) 2 73 := ⟨by decide +kernel, rfl⟩
theorem d_X10_year_73 : q_dec prog_12_method_49_code 73 (.idiv) 1 74 := ⟨by decide +kernel, rfl⟩
theorem d_X10_year_74 : q_dec prog_12_method_49_code 74 (.bipush 8) 2 76 := ⟨by decide +kernel, rfl⟩
theorem d_X10_year_76 : q_dec prog_12_method_49_code 76 (.irem) 1 77 := ⟨by decide +kernel, rfl⟩
theorem d_X10_year_77 : q_dec prog_12_method_49_code 77 (.istore 7) 2 79 := ⟨by decide +kernel, rfl⟩
theorem d_X10_year_79 : q_dec prog_12_method_49_code 79 (.iload 7) 2 81 := ⟨by decide +kernel, rfl⟩
theorem d_X10_year_81 : q_dec prog_12_method_49_code 81 (.iconst 4) 1 82 := ⟨by decide +kernel, rfl⟩
theorem d_X10_year_82 : q_dec prog_12_method_49_code 82 (.if_icmp .ge 24) 3 85 := ⟨by decide +kernel, rfl⟩
theorem d_X10_year_85 : q_dec prog_12_method_49_code 85 (.aload_n 0) 1 86 := ⟨by decide +kernel, rfl⟩
theorem d_X10_year_86 : q_dec prog_12_method_49_code 86 (.iload 6) 2 88 := ⟨by decide +kernel, rfl⟩
theorem d_X10_year_88 : q_dec prog_12_method_49_code 88 (.iload 7) 2 90 := ⟨by decide +kernel, rfl⟩
theorem d_X10_year_90 : q_dec prog_12_method_49_code 90 (.iconst 2) 1 91 := ⟨by decide +kernel, rfl⟩
theorem d_X10_year_91 : q_dec prog_12_method_49_code 91 (.if_icmp .ge 7) 3 94 := ⟨by decide +kernel, rfl⟩
theorem d_X10_year_94 : q_dec prog_12_method_49_code 94 (.iconst (-1)) 1 95 := ⟨by decide +kernel, rfl⟩
theorem d_X10_year_95 : q_dec prog_12_method_49_code 95 (.goto 4) 3 98 := ⟨by decide +kernel, rfl⟩
theorem d_X10_year_98 : q_dec prog_12_method_49_code 98 (.iconst 1) 1 99 := ⟨by decide +kernel, rfl⟩
theorem d_X10_year_99 : q_dec prog_12_method_49_code 99 (.invokevirtual 113) 3 102 := ⟨by decide +kernel, rfl⟩
theorem d_X10_year_102 : q_dec prog_12_method_49_code 102 (.pop) 1 103 := ⟨by decide +kernel, rfl⟩
theorem d_X10_year_103 : q_dec prog_12_method_49_code 103 (.goto 54) 3 106 := ⟨by decide +kernel, rfl⟩
theorem d_X10_year_106 : q_dec prog_12_method_49_code 106 (.iload 7) 2 108 := ⟨by decide +kernel, rfl⟩
theorem d_X10_year_108 : q_dec prog_12_method_49_code 108 (.iconst 4) 1 109 := ⟨by decide +kernel, rfl⟩
theorem d_X10_year_109 : q_dec prog_12_method_49_code 109 (.if_icmp .ne 13) 3 112 := ⟨by decide +kernel, rfl⟩
theorem d_X10_year_112 : q_dec prog_12_method_49_code 112 (.aload_n 0) 1 113 := ⟨by decide +kernel, rfl⟩
theorem d_X10_year_113 : q_dec prog_12_method_49_code 113 (.iload 6) 2 115 := ⟨by decide +kernel, rfl⟩
theorem d_X10_year_115 : q_dec prog_12_method_49_code 115 (.invokevirtual 107) 3 118 := ⟨by decide +kernel, rfl⟩
theorem d_X10_year_118 : q_dec prog_12_method_49_code 118 (.pop) 1 119 := ⟨by decide +kernel, rfl⟩
theorem d_X10_year_119 : q_dec prog_12_method_49_code 119 (.goto 38) 3 122 := ⟨by decide +kernel, rfl⟩
theorem d_X10_year_122 : q_dec prog_12_method_49_code 122 (.iload 7) 2 124 := ⟨by decide +kernel, rfl⟩
theorem d_X10_year_124 : q_dec prog_12_method_49_code 124 (.iconst 5) 1 125 := ⟨by decide +kernel, rfl⟩
theorem d_X10_year_125 : q_dec prog_12_method_49_code 125 (.if_icmp .ne 13) 3 128 := ⟨by decide +kernel, rfl⟩
theorem d_X10_year_128 : q_dec prog_12_method_49_code 128 (.aload_n 0) 1 129 := ⟨by decide +kernel, rfl⟩
theorem d_X10_year_129 : q_dec prog_12_method_49_code 129 (.iload 6) 2 131 := ⟨by decide +kernel, rfl⟩
theorem d_X10_year_131 : q_dec prog_12_method_49_code 131 (.invokevirtual 110) 3 134 := ⟨by decide +kernel, rfl⟩
theorem d_X10_year_134 : q_dec prog_12_method_49_code 134 (.pop) 1 135 := ⟨by decide +kernel, rfl⟩
theorem d_X10_year_135 : q_dec prog_12_method_49_code 135 (.goto 22) 3 138 := ⟨by decide +kernel, rfl⟩
theorem d_X10_year_138 : q_dec prog_12_method_49_code 138 (.iload 7) 2 140 := ⟨by decide +kernel, rfl⟩
theorem d_X10_year_140 : q_dec prog_12_method_49_code 140 (.bipush 6) 2 142 := ⟨by decide +kernel, rfl⟩
theorem d_X10_year_142 : q_dec prog_12_method_49_code 142 (.if_icmp .ne 10) 3 145 := ⟨by decide +kernel, rfl⟩
theorem d_X10_year_145 : q_dec prog_12_method_49_code 145 (.aload_n 0) 1 146 := ⟨by decide +kernel, rfl⟩
theorem d_X10_year_146 : q_dec prog_12_method_49_code 146 (.invokevirtual 126) 3 149 := ⟨by decide +kernel, rfl⟩
theorem d_X10_year_149 : q_dec prog_12_method_49_code 149 (.goto 8) 3 152 := ⟨by decide +kernel, rfl⟩
theorem d_X10_year_152 : q_dec prog_12_method_49_code 152 (.aload_n 0) 1 153 := ⟨by decide +kernel, rfl⟩
theorem d_X10_year_153 : q_dec prog_12_method_49_code 153 (.invokevirtual 129) 3 156 := ⟨by decide +kernel, rfl⟩
theorem d_X10_year_156 : q_dec prog_12_method_49_code 156 (.pop) 1 157 := ⟨by decide +kernel, rfl⟩
theorem d_X10_year_157 : q_dec prog_12_method_49_code 157 (.iinc 5 1) 3 160 := ⟨by decide +kernel, rfl⟩
theorem d_X10_year_160 : q_dec prog_12_method_49_code 160 (.goto (-117)) 3 163 := ⟨by decide +kernel, rfl⟩
theorem d_X10_year_163 : q_dec prog_12_method_49_code 163 (.iconst 0) 1 164 := ⟨by decide +kernel, rfl⟩
theorem d_X10_year_164 : q_dec prog_12_method_49_code 164 (.istore 5) 2 166 := ⟨by decide +kernel, rfl⟩
theorem d_X10_year_166 : q_dec prog_12_method_49_code 166 (.iconst 0) 1 167 := ⟨by decide +kernel, rfl⟩
theorem d_X10_year_167 : q_dec prog_12_method_49_code 167 (.istore 6) 2 169 := ⟨by decide +kernel, rfl⟩
theorem d_X10_year_169 : q_dec prog_12_method_49_code 169 (.iload 6) 2 171 := ⟨by decide +kernel, rfl⟩
theorem d_X10_year_171 : q_dec prog_12_method_49_code 171 (.bipush 6) 2 173 := ⟨by decide +kernel, rfl⟩
theorem d_X10_year_173 : q_dec prog_12_method_49_code 173 (.if_icmp .ge 37) 3 176 := ⟨by decide +kernel, rfl⟩
theorem d_X10_year_176 : q_dec prog_12_method_49_code 176 (.iload 5) 2 178 := ⟨by decide +kernel, rfl⟩
theorem d_X10_year_178 : q_dec prog_12_method_49_code 178 (.aload_n 0) 1 179 := ⟨by decide +kernel, rfl⟩
theorem d_X10_year_179 : q_dec prog_12_method_49_code 179 (.iload 6) 2 181 := ⟨by decide +kernel, rfl⟩
theorem d_X10_year_181 : q_dec prog_12_method_49_code 181 (.invokevirtual 77) 3 184 := ⟨by decide +kernel, rfl⟩
theorem d_X10_year_184 : q_dec prog_12_method_49_code 184 (.ifCond .eq 16) 3 187 := ⟨by decide +kernel, rfl⟩
theorem d_X10_year_187 : q_dec prog_12_method_49_code 187 (.aload_n 0) 1 188 := ⟨by decide +kernel, rfl⟩
theorem d_X10_year_188 : q_dec prog_12_method_49_code 188 (.getfield 13) 3 191 := ⟨by decide +kernel, rfl⟩
theorem d_X10_year_191 : q_dec prog_12_method_49_code 191 (.bipush 6) 2 193 := ⟨by decide +kernel, rfl⟩
theorem d_X10_year_193 : q_dec prog_12_method_49_code 193 (.iload 6) 2 195 := ⟨by decide +kernel, rfl⟩
theorem d_X10_year_195 : q_dec prog_12_method_49_code 195 (.imul) 1 196 := ⟨by decide +kernel, rfl⟩
theorem d_X10_year_196 : q_dec prog_12_method_49_code 196 (.iaload) 1 197 := ⟨by decide +kernel, rfl⟩
theorem d_X10_year_197 : q_dec prog_12_method_49_code 197 (.goto 4) 3 200 := ⟨by decide +kernel, rfl⟩
theorem d_X10_year_200 : q_dec prog_12_method_49_code 200 (.iconst 0) 1 201 := ⟨by decide +kernel, rfl⟩
theorem d_X10_year_201 : q_dec prog_12_method_49_code 201 (.iadd) 1 202 := ⟨by decide +kernel, rfl⟩
theorem d_X10_year_202 : q_dec prog_12_method_49_code 202 (.istore 5) 2 204 := ⟨by decide +kernel, rfl⟩
theorem d_X10_year_204 : q_dec prog_12_method_49_code 204 (.iinc 6 1) 3 207 := ⟨by decide +kernel, rfl⟩
theorem d_X10_year_207 : q_dec prog_12_method_49_code 207 (.goto (-38)) 3 210 := ⟨by decide +kernel, rfl⟩
theorem d_X10_year_210 : q_dec prog_12_method_49_code 210 (.iload_n 3) 1 211 := ⟨by decide +kernel, rfl⟩
theorem d_X10_year_211 : q_dec prog_12_method_49_code 211 (.ifCond .ne 8) 3 214 := ⟨by decide +kernel, rfl⟩
theorem d_X10_year_214 : q_dec prog_12_method_49_code 214 (.iload 5) 2 216 := ⟨by decide +kernel, rfl⟩
theorem d_X10_year_216 : q_dec prog_12_method_49_code 216 (.goto 22) 3 219 := ⟨by decide +kernel, rfl⟩
theorem d_X10_year_219 : q_dec prog_12_method_49_code 219 (.iload_n 3) 1 220 := ⟨by decide +kernel, rfl⟩
theorem d_X10_year_220 : q_dec prog_12_method_49_code 220 (.iconst 1) 1 221 := ⟨by decide +kernel, rfl⟩
theorem d_X10_year_221 : q_dec prog_12_method_49_code 221 (.if_icmp .ne 10) 3 224 := ⟨by decide +kernel, rfl⟩
theorem d_X10_year_224 : q_dec prog_12_method_49_code 224 (.aload_n 0) 1 225 := ⟨by decide +kernel, rfl⟩
theorem d_X10_year_225 : q_dec prog_12_method_49_code 225 (.invokevirtual 141) 3 228 := ⟨by decide +kernel, rfl⟩
theorem d_X10_year_228 : q_dec prog_12_method_49_code 228 (.goto 10) 3 231 := ⟨by decide +kernel, rfl⟩
theorem d_X10_year_231 : q_dec prog_12_method_49_code 231 (.aload_n 0) 1 232 := ⟨by decide +kernel, rfl⟩
theorem d_X10_year_232 : q_dec prog_12_method_49_code 232 (.getfield 13) 3 235 := ⟨by decide +kernel, rfl⟩
theorem d_X10_year_235 : q_dec prog_12_method_49_code 235 (.bipush 48) 2 237 := ⟨by decide +kernel, rfl⟩
theorem d_X10_year_237 : q_dec prog_12_method_49_code 237 (.iaload) 1 238 := ⟨by decide +kernel, rfl⟩
theorem d_X10_year_238 : q_dec prog_12_method_49_code 238 (.ireturn) 1 239 := ⟨by decide +kernel, rfl⟩
theorem m_X10_year : q_wV y_X10_year prog_12_method_49_code 8 (some .int) 3 := ⟨q_mem 939 (by decide +kernel) (by decide +kernel), q_mem 937 (by decide +kernel) (by decide +kernel), q_mem 938 (by decide +kernel) (by decide +kernel), q_mem 11 (by decide +kernel) (by decide +kernel), by decide +kernel⟩
theorem d_X10_image_0 : q_dec prog_12_method_50_code 0 (.iload_n 1) 1 1 := ⟨by decide +kernel, rfl⟩
theorem d_X10_image_1 : q_dec prog_12_method_50_code 1 (.iconst 0) 1 2 := ⟨by decide +kernel, rfl⟩
theorem d_X10_image_2 : q_dec prog_12_method_50_code 2 (.iconst 1) 1 3 := ⟨by decide +kernel, rfl⟩
theorem d_X10_image_3 : q_dec prog_12_method_50_code 3 (.invokestatic 55) 3 6 := ⟨by decide +kernel, rfl⟩
theorem d_X10_image_6 : q_dec prog_12_method_50_code 6 (.ifCond .ne 6) 3 9 := ⟨by decide +kernel, rfl⟩
theorem d_X10_image_9 : q_dec prog_12_method_50_code 9 (.bipush (-2)) 2 11 := ⟨by decide +kernel, rfl⟩
theorem d_X10_image_11 : q_dec prog_12_method_50_code 11 (.ireturn) 1 12 := ⟨by decide +kernel, rfl⟩
theorem d_X10_image_12 : q_dec prog_12_method_50_code 12 (.bipush 90) 2 14 := ⟨by decide +kernel, rfl⟩
theorem d_X10_image_14 : q_dec prog_12_method_50_code 14 (.iload_n 1) 1 15 := ⟨by decide +kernel, rfl⟩
theorem d_X10_image_15 : q_dec prog_12_method_50_code 15 (.imul) 1 16 := ⟨by decide +kernel, rfl⟩
theorem d_X10_image_16 : q_dec prog_12_method_50_code 16 (.istore_n 2) 1 17 := ⟨by decide +kernel, rfl⟩
theorem d_X10_image_17 : q_dec prog_12_method_50_code 17 (.iconst 0) 1 18 := ⟨by decide +kernel, rfl⟩
theorem d_X10_image_18 : q_dec prog_12_method_50_code 18 (.istore_n 3) 1 19 := ⟨by decide +kernel, rfl⟩
theorem d_X10_image_19 : q_dec prog_12_method_50_code 19 (.iload_n 3) 1 20 := ⟨by decide +kernel, rfl⟩
theorem d_X10_image_20 : q_dec prog_12_method_50_code 20 (.bipush 50) 2 22 := ⟨by decide +kernel, rfl⟩
theorem d_X10_image_22 : q_dec prog_12_method_50_code 22 (.if_icmp .ge 23) 3 25 := ⟨by decide +kernel, rfl⟩
theorem d_X10_image_25 : q_dec prog_12_method_50_code 25 (.aload_n 0) 1 26 := ⟨by decide +kernel, rfl⟩
theorem d_X10_image_26 : q_dec prog_12_method_50_code 26 (.getfield 48) 3 29 := ⟨by decide +kernel, rfl⟩
theorem d_X10_image_29 : q_dec prog_12_method_50_code 29 (.iload_n 2) 1 30 := ⟨by decide +kernel, rfl⟩
theorem d_X10_image_30 : q_dec prog_12_method_50_code 30 (.iload_n 3) 1 31 := ⟨by decide +kernel, rfl⟩
theorem d_X10_image_31 : q_dec prog_12_method_50_code 31 (.iadd) 1 32 := ⟨by decide +kernel, rfl⟩
theorem d_X10_image_32 : q_dec prog_12_method_50_code 32 (.aload_n 0) 1 33 := ⟨by decide +kernel, rfl⟩
theorem d_X10_image_33 : q_dec prog_12_method_50_code 33 (.getfield 7) 3 36 := ⟨by decide +kernel, rfl⟩
theorem d_X10_image_36 : q_dec prog_12_method_50_code 36 (.iload_n 3) 1 37 := ⟨by decide +kernel, rfl⟩
theorem d_X10_image_37 : q_dec prog_12_method_50_code 37 (.iaload) 1 38 := ⟨by decide +kernel, rfl⟩
theorem d_X10_image_38 : q_dec prog_12_method_50_code 38 (.iastore) 1 39 := ⟨by decide +kernel, rfl⟩
theorem d_X10_image_39 : q_dec prog_12_method_50_code 39 (.iinc 3 1) 3 42 := ⟨by decide +kernel, rfl⟩
theorem d_X10_image_42 : q_dec prog_12_method_50_code 42 (.goto (-23)) 3 45 := ⟨by decide +kernel, rfl⟩
theorem d_X10_image_45 : q_dec prog_12_method_50_code 45 (.iconst 0) 1 46 := ⟨by decide +kernel, rfl⟩
theorem d_X10_image_46 : q_dec prog_12_method_50_code 46 (.istore_n 3) 1 47 := ⟨by decide +kernel, rfl⟩
theorem d_X10_image_47 : q_dec prog_12_method_50_code 47 (.iload_n 3) 1 48 := ⟨by decide +kernel, rfl⟩
theorem d_X10_image_48 : q_dec prog_12_method_50_code 48 (.bipush 6) 2 50 := ⟨by decide +kernel, rfl⟩
theorem d_X10_image_50 : q_dec prog_12_method_50_code 50 (.if_icmp .ge 26) 3 53 := ⟨by decide +kernel, rfl⟩
theorem d_X10_image_53 : q_dec prog_12_method_50_code 53 (.aload_n 0) 1 54 := ⟨by decide +kernel, rfl⟩
theorem d_X10_image_54 : q_dec prog_12_method_50_code 54 (.getfield 48) 3 57 := ⟨by decide +kernel, rfl⟩
theorem d_X10_image_57 : q_dec prog_12_method_50_code 57 (.iload_n 2) 1 58 := ⟨by decide +kernel, rfl⟩
theorem d_X10_image_58 : q_dec prog_12_method_50_code 58 (.bipush 50) 2 60 := ⟨by decide +kernel, rfl⟩
theorem d_X10_image_60 : q_dec prog_12_method_50_code 60 (.iadd) 1 61 := ⟨by decide +kernel, rfl⟩
theorem d_X10_image_61 : q_dec prog_12_method_50_code 61 (.iload_n 3) 1 62 := ⟨by decide +kernel, rfl⟩
theorem d_X10_image_62 : q_dec prog_12_method_50_code 62 (.iadd) 1 63 := ⟨by decide +kernel, rfl⟩
theorem d_X10_image_63 : q_dec prog_12_method_50_code 63 (.aload_n 0) 1 64 := ⟨by decide +kernel, rfl⟩
theorem d_X10_image_64 : q_dec prog_12_method_50_code 64 (.getfield 16) 3 67 := ⟨by decide +kernel, rfl⟩
theorem d_X10_image_67 : q_dec prog_12_method_50_code 67 (.iload_n 3) 1 68 := ⟨by decide +kernel, rfl⟩
theorem d_X10_image_68 : q_dec prog_12_method_50_code 68 (.iaload) 1 69 := ⟨by decide +kernel, rfl⟩
theorem d_X10_image_69 : q_dec prog_12_method_50_code 69 (.iastore) 1 70 := ⟨by decide +kernel, rfl⟩
theorem d_X10_image_70 : q_dec prog_12_method_50_code 70 (.iinc 3 1) 3 73 := ⟨by decide +kernel, rfl⟩
theorem d_X10_image_73 : q_dec prog_12_method_50_code 73 (.goto (-26)) 3 76 := ⟨by decide +kernel, rfl⟩
theorem d_X10_image_76 : q_dec prog_12_method_50_code 76 (.iconst 0) 1 77 := ⟨by decide +kernel, rfl⟩
theorem d_X10_image_77 : q_dec prog_12_method_50_code 77 (.istore_n 3) 1 78 := ⟨by decide +kernel, rfl⟩
theorem d_X10_image_78 : q_dec prog_12_method_50_code 78 (.iload_n 3) 1 79 := ⟨by decide +kernel, rfl⟩
theorem d_X10_image_79 : q_dec prog_12_method_50_code 79 (.bipush 16) 2 81 := ⟨by decide +kernel, rfl⟩
theorem d_X10_image_81 : q_dec prog_12_method_50_code 81 (.if_icmp .ge 26) 3 84 := ⟨by decide +kernel, rfl⟩
theorem d_X10_image_84 : q_dec prog_12_method_50_code 84 (.aload_n 0) 1 85 := ⟨by decide +kernel, rfl⟩
theorem d_X10_image_85 : q_dec prog_12_method_50_code 85 (.getfield 48) 3 88 := ⟨by decide +kernel, rfl⟩
theorem d_X10_image_88 : q_dec prog_12_method_50_code 88 (.iload_n 2) 1 89 := ⟨by decide +kernel, rfl⟩
theorem d_X10_image_89 : q_dec prog_12_method_50_code 89 (.bipush 56) 2 91 := ⟨by decide +kernel, rfl⟩
theorem d_X10_image_91 : q_dec prog_12_method_50_code 91 (.iadd) 1 92 := ⟨by decide +kernel, rfl⟩
theorem d_X10_image_92 : q_dec prog_12_method_50_code 92 (.iload_n 3) 1 93 := ⟨by decide +kernel, rfl⟩
theorem d_X10_image_93 : q_dec prog_12_method_50_code 93 (.iadd) 1 94 := ⟨by decide +kernel, rfl⟩
theorem d_X10_image_94 : q_dec prog_12_method_50_code 94 (.aload_n 0) 1 95 := ⟨by decide +kernel, rfl⟩
theorem d_X10_image_95 : q_dec prog_12_method_50_code 95 (.getfield 23) 3 98 := ⟨by decide +kernel, rfl⟩
theorem d_X10_image_98 : q_dec prog_12_method_50_code 98 (.iload_n 3) 1 99 := ⟨by decide +kernel, rfl⟩
theorem d_X10_image_99 : q_dec prog_12_method_50_code 99 (.iaload) 1 100 := ⟨by decide +kernel, rfl⟩
theorem d_X10_image_100 : q_dec prog_12_method_50_code 100 (.iastore) 1 101 := ⟨by decide +kernel, rfl⟩
theorem d_X10_image_101 : q_dec prog_12_method_50_code 101 (.iinc 3 1) 3 104 := ⟨by decide +kernel, rfl⟩
theorem d_X10_image_104 : q_dec prog_12_method_50_code 104 (.goto (-26)) 3 107 := ⟨by decide +kernel, rfl⟩
theorem d_X10_image_107 : q_dec prog_12_method_50_code 107 (.aload_n 0) 1 108 := ⟨by decide +kernel, rfl⟩
theorem d_X10_image_108 : q_dec prog_12_method_50_code 108 (.getfield 48) 3 111 := ⟨by decide +kernel, rfl⟩
theorem d_X10_image_111 : q_dec prog_12_method_50_code 111 (.iload_n 2) 1 112 := ⟨by decide +kernel, rfl⟩
theorem d_X10_image_112 : q_dec prog_12_method_50_code 112 (.bipush 80) 2 114 := ⟨by decide +kernel, rfl⟩
theorem d_X10_image_114 : q_dec prog_12_method_50_code 114 (.iadd) 1 115 := ⟨by decide +kernel, rfl⟩
theorem d_X10_image_115 : q_dec prog_12_method_50_code 115 (.aload_n 0) 1 116 := ⟨by decide +kernel, rfl⟩
theorem d_X10_image_116 : q_dec prog_12_method_50_code 116 (.getfield 59) 3 119 := ⟨by decide +kernel, rfl⟩
theorem d_X10_image_119 : q_dec prog_12_method_50_code 119 (.iastore) 1 120 := ⟨by decide +kernel, rfl⟩
theorem d_X10_image_120 : q_dec prog_12_method_50_code 120 (.aload_n 0) 1 121 := ⟨by decide +kernel, rfl⟩
theorem d_X10_image_121 : q_dec prog_12_method_50_code 121 (.getfield 48) 3 124 := ⟨by decide +kernel, rfl⟩
theorem d_X10_image_124 : q_dec prog_12_method_50_code 124 (.iload_n 2) 1 125 := ⟨by decide +kernel, rfl⟩
theorem d_X10_image_125 : q_dec prog_12_method_50_code 125 (.bipush 81) 2 127 := ⟨by decide +kernel, rfl⟩
theorem d_X10_image_127 : q_dec prog_12_method_50_code 127 (.iadd) 1 128 := ⟨by decide +kernel, rfl⟩
theorem d_X10_image_128 : q_dec prog_12_method_50_code 128 (.aload_n 0) 1 129 := ⟨by decide +kernel, rfl⟩
theorem d_X10_image_129 : q_dec prog_12_method_50_code 129 (.getfield 70) 3 132 := ⟨by decide +kernel, rfl⟩
theorem d_X10_image_132 : q_dec prog_12_method_50_code 132 (.iastore) 1 133 := ⟨by decide +kernel, rfl⟩
theorem d_X10_image_133 : q_dec prog_12_method_50_code 133 (.aload_n 0) 1 134 := ⟨by decide +kernel, rfl⟩
theorem d_X10_image_134 : q_dec prog_12_method_50_code 134 (.getfield 48) 3 137 := ⟨by decide +kernel, rfl⟩
theorem d_X10_image_137 : q_dec prog_12_method_50_code 137 (.iload_n 2) 1 138 := ⟨by decide +kernel, rfl⟩
theorem d_X10_image_138 : q_dec prog_12_method_50_code 138 (.bipush 82) 2 140 := ⟨by decide +kernel, rfl⟩
theorem d_X10_image_140 : q_dec prog_12_method_50_code 140 (.iadd) 1 141 := ⟨by decide +kernel, rfl⟩
theorem d_X10_image_141 : q_dec prog_12_method_50_code 141 (.aload_n 0) 1 142 := ⟨by decide +kernel, rfl⟩
theorem d_X10_image_142 : q_dec prog_12_method_50_code 142 (.getfield 19) 3 145 := ⟨by decide +kernel, rfl⟩
theorem d_X10_image_145 : q_dec prog_12_method_50_code 145 (.iastore) 1 146 := ⟨by decide +kernel, rfl⟩
theorem d_X10_image_146 : q_dec prog_12_method_50_code 146 (.aload_n 0) 1 147 := ⟨by decide +kernel, rfl⟩
theorem d_X10_image_147 : q_dec prog_12_method_50_code 147 (.getfield 48) 3 150 := ⟨by decide +kernel, rfl⟩
theorem d_X10_image_150 : q_dec prog_12_method_50_code 150 (.iload_n 2) 1 151 := ⟨by decide +kernel, rfl⟩
theorem d_X10_image_151 : q_dec prog_12_method_50_code 151 (.bipush 83) 2 153 := ⟨by decide +kernel, rfl⟩
theorem d_X10_image_153 : q_dec prog_12_method_50_code 153 (.iadd) 1 154 := ⟨by decide +kernel, rfl⟩
theorem d_X10_image_154 : q_dec prog_12_method_50_code 154 (.aload_n 0) 1 155 := ⟨by decide +kernel, rfl⟩
theorem d_X10_image_155 : q_dec prog_12_method_50_code 155 (.getfield 155) 3 158 := ⟨by decide +kernel, rfl⟩
theorem d_X10_image_158 : q_dec prog_12_method_50_code 158 (.iastore) 1 159 := ⟨by decide +kernel, rfl⟩
theorem d_X10_image_159 : q_dec prog_12_method_50_code 159 (.aload_n 0) 1 160 := ⟨by decide +kernel, rfl⟩
theorem d_X10_image_160 : q_dec prog_12_method_50_code 160 (.getfield 51) 3 163 := ⟨by decide +kernel, rfl⟩
theorem d_X10_image_163 : q_dec prog_12_method_50_code 163 (.iload_n 1) 1 164 := ⟨by decide +kernel, rfl⟩
theorem d_X10_image_164 : q_dec prog_12_method_50_code 164 (.iconst 1) 1 165 := ⟨by decide +kernel, rfl⟩
theorem d_X10_image_165 : q_dec prog_12_method_50_code 165 (.bastore) 1 166 := ⟨by decide +kernel, rfl⟩
theorem d_X10_image_166 : q_dec prog_12_method_50_code 166 (.iconst 1) 1 167 := ⟨by decide +kernel, rfl⟩
theorem d_X10_image_167 : q_dec prog_12_method_50_code 167 (.ireturn) 1 168 := ⟨by decide +kernel, rfl⟩
theorem m_X10_image : q_wV y_X10_image prog_12_method_50_code 4 (some .int) 1 := ⟨q_mem 944 (by decide +kernel) (by decide +kernel), q_mem 942 (by decide +kernel) (by decide +kernel), q_mem 943 (by decide +kernel) (by decide +kernel), q_mem 11 (by decide +kernel) (by decide +kernel), by decide +kernel⟩
theorem d_X10_restore_0 : q_dec prog_12_method_51_code 0 (.iload_n 1) 1 1 := ⟨by decide +kernel, rfl⟩
theorem d_X10_restore_1 : q_dec prog_12_method_51_code 1 (.iconst 0) 1 2 := ⟨by decide +kernel, rfl⟩
theorem d_X10_restore_2 : q_dec prog_12_method_51_code 2 (.iconst 1) 1 3 := ⟨by decide +kernel, rfl⟩
theorem d_X10_restore_3 : q_dec prog_12_method_51_code 3 (.invokestatic 55) 3 6 := ⟨by decide +kernel, rfl⟩
theorem d_X10_restore_6 : q_dec prog_12_method_51_code 6 (.ifCond .ne 6) 3 9 := ⟨by decide +kernel, rfl⟩
theorem d_X10_restore_9 : q_dec prog_12_method_51_code 9 (.bipush (-2)) 2 11 := ⟨by decide +kernel, rfl⟩
theorem d_X10_restore_11 : q_dec prog_12_method_51_code 11 (.ireturn) 1 12 := ⟨by decide +kernel, rfl⟩
theorem d_X10_restore_12 : q_dec prog_12_method_51_code 12 (.aload_n 0) 1 13 := ⟨by decide +kernel, rfl⟩
theorem d_X10_restore_13 : q_dec prog_12_method_51_code 13 (.getfield 51) 3 16 := ⟨by decide +kernel, rfl⟩
theorem d_X10_restore_16 : q_dec prog_12_method_51_code 16 (.iload_n 1) 1 17 := ⟨by decide +kernel, rfl⟩
theorem d_X10_restore_17 : q_dec prog_12_method_51_code 17 (.baload) 1 18 := ⟨by decide +kernel, rfl⟩
theorem d_X10_restore_18 : q_dec prog_12_method_51_code 18 (.ifCond .ne 6) 3 21 := ⟨by decide +kernel, rfl⟩
theorem d_X10_restore_21 : q_dec prog_12_method_51_code 21 (.bipush (-3)) 2 23 := ⟨by decide +kernel, rfl⟩
theorem d_X10_restore_23 : q_dec prog_12_method_51_code 23 (.ireturn) 1 24 := ⟨by decide +kernel, rfl⟩
theorem d_X10_restore_24 : q_dec prog_12_method_51_code 24 (.bipush 90) 2 26 := ⟨by decide +kernel, rfl⟩
theorem d_X10_restore_26 : q_dec prog_12_method_51_code 26 (.iload_n 1) 1 27 := ⟨by decide +kernel, rfl⟩
theorem d_X10_restore_27 : q_dec prog_12_method_51_code 27 (.imul) 1 28 := ⟨by decide +kernel, rfl⟩
theorem d_X10_restore_28 : q_dec prog_12_method_51_code 28 (.istore_n 2) 1 29 := ⟨by decide +kernel, rfl⟩
theorem d_X10_restore_29 : q_dec prog_12_method_51_code 29 (.iconst 0) 1 30 := ⟨by decide +kernel, rfl⟩
theorem d_X10_restore_30 : q_dec prog_12_method_51_code 30 (.istore_n 3) 1 31 := ⟨by decide +kernel, rfl⟩
theorem d_X10_restore_31 : q_dec prog_12_method_51_code 31 (.iload_n 3) 1 32 := ⟨by decide +kernel, rfl⟩
theorem d_X10_restore_32 : q_dec prog_12_method_51_code 32 (.bipush 50) 2 34 := ⟨by decide +kernel, rfl⟩
theorem d_X10_restore_34 : q_dec prog_12_method_51_code 34 (.if_icmp .ge 23) 3 37 := ⟨by decide +kernel, rfl⟩
theorem d_X10_restore_37 : q_dec prog_12_method_51_code 37 (.aload_n 0) 1 38 := ⟨by decide +kernel, rfl⟩
theorem d_X10_restore_38 : q_dec prog_12_method_51_code 38 (.getfield 7) 3 41 := ⟨by decide +kernel, rfl⟩
theorem d_X10_restore_41 : q_dec prog_12_method_51_code 41 (.iload_n 3) 1 42 := ⟨by decide +kernel, rfl⟩
theorem d_X10_restore_42 : q_dec prog_12_method_51_code 42 (.aload_n 0) 1 43 := ⟨by decide +kernel, rfl⟩
theorem d_X10_restore_43 : q_dec prog_12_method_51_code 43 (.getfield 48) 3 46 := ⟨by decide +kernel, rfl⟩
theorem d_X10_restore_46 : q_dec prog_12_method_51_code 46 (.iload_n 2) 1 47 := ⟨by decide +kernel, rfl⟩
theorem d_X10_restore_47 : q_dec prog_12_method_51_code 47 (.iload_n 3) 1 48 := ⟨by decide +kernel, rfl⟩
theorem d_X10_restore_48 : q_dec prog_12_method_51_code 48 (.iadd) 1 49 := ⟨by decide +kernel, rfl⟩
theorem d_X10_restore_49 : q_dec prog_12_method_51_code 49 (.iaload) 1 50 := ⟨by decide +kernel, rfl⟩
theorem d_X10_restore_50 : q_dec prog_12_method_51_code 50 (.iastore) 1 51 := ⟨by decide +kernel, rfl⟩
theorem d_X10_restore_51 : q_dec prog_12_method_51_code 51 (.iinc 3 1) 3 54 := ⟨by decide +kernel, rfl⟩
theorem d_X10_restore_54 : q_dec prog_12_method_51_code 54 (.goto (-23)) 3 57 := ⟨by decide +kernel, rfl⟩
theorem d_X10_restore_57 : q_dec prog_12_method_51_code 57 (.iconst 0) 1 58 := ⟨by decide +kernel, rfl⟩
theorem d_X10_restore_58 : q_dec prog_12_method_51_code 58 (.istore_n 3) 1 59 := ⟨by decide +kernel, rfl⟩
theorem d_X10_restore_59 : q_dec prog_12_method_51_code 59 (.iload_n 3) 1 60 := ⟨by decide +kernel, rfl⟩
theorem d_X10_restore_60 : q_dec prog_12_method_51_code 60 (.bipush 6) 2 62 := ⟨by decide +kernel, rfl⟩
theorem d_X10_restore_62 : q_dec prog_12_method_51_code 62 (.if_icmp .ge 26) 3 65 := ⟨by decide +kernel, rfl⟩
theorem d_X10_restore_65 : q_dec prog_12_method_51_code 65 (.aload_n 0) 1 66 := ⟨by decide +kernel, rfl⟩
theorem d_X10_restore_66 : q_dec prog_12_method_51_code 66 (.getfield 16) 3 69 := ⟨by decide +kernel, rfl⟩
theorem d_X10_restore_69 : q_dec prog_12_method_51_code 69 (.iload_n 3) 1 70 := ⟨by decide +kernel, rfl⟩
theorem d_X10_restore_70 : q_dec prog_12_method_51_code 70 (.aload_n 0) 1 71 := ⟨by decide +kernel, rfl⟩
theorem d_X10_restore_71 : q_dec prog_12_method_51_code 71 (.getfield 48) 3 74 := ⟨by decide +kernel, rfl⟩
theorem d_X10_restore_74 : q_dec prog_12_method_51_code 74 (.iload_n 2) 1 75 := ⟨by decide +kernel, rfl⟩
theorem d_X10_restore_75 : q_dec prog_12_method_51_code 75 (.bipush 50) 2 77 := ⟨by decide +kernel, rfl⟩
theorem d_X10_restore_77 : q_dec prog_12_method_51_code 77 (.iadd) 1 78 := ⟨by decide +kernel, rfl⟩
theorem d_X10_restore_78 : q_dec prog_12_method_51_code 78 (.iload_n 3) 1 79 := ⟨by decide +kernel, rfl⟩
theorem d_X10_restore_79 : q_dec prog_12_method_51_code 79 (.iadd) 1 80 := ⟨by decide +kernel, rfl⟩
theorem d_X10_restore_80 : q_dec prog_12_method_51_code 80 (.iaload) 1 81 := ⟨by decide +kernel, rfl⟩
theorem d_X10_restore_81 : q_dec prog_12_method_51_code 81 (.iastore) 1 82 := ⟨by decide +kernel, rfl⟩
theorem d_X10_restore_82 : q_dec prog_12_method_51_code 82 (.iinc 3 1) 3 85 := ⟨by decide +kernel, rfl⟩
theorem d_X10_restore_85 : q_dec prog_12_method_51_code 85 (.goto (-26)) 3 88 := ⟨by decide +kernel, rfl⟩
theorem d_X10_restore_88 : q_dec prog_12_method_51_code 88 (.iconst 0) 1 89 := ⟨by decide +kernel, rfl⟩
theorem d_X10_restore_89 : q_dec prog_12_method_51_code 89 (.istore_n 3) 1 90 := ⟨by decide +kernel, rfl⟩
theorem d_X10_restore_90 : q_dec prog_12_method_51_code 90 (.iload_n 3) 1 91 := ⟨by decide +kernel, rfl⟩
theorem d_X10_restore_91 : q_dec prog_12_method_51_code 91 (.bipush 16) 2 93 := ⟨by decide +kernel, rfl⟩
theorem d_X10_restore_93 : q_dec prog_12_method_51_code 93 (.if_icmp .ge 26) 3 96 := ⟨by decide +kernel, rfl⟩
theorem d_X10_restore_96 : q_dec prog_12_method_51_code 96 (.aload_n 0) 1 97 := ⟨by decide +kernel, rfl⟩
theorem d_X10_restore_97 : q_dec prog_12_method_51_code 97 (.getfield 23) 3 100 := ⟨by decide +kernel, rfl⟩
theorem d_X10_restore_100 : q_dec prog_12_method_51_code 100 (.iload_n 3) 1 101 := ⟨by decide +kernel, rfl⟩
theorem d_X10_restore_101 : q_dec prog_12_method_51_code 101 (.aload_n 0) 1 102 := ⟨by decide +kernel, rfl⟩
theorem d_X10_restore_102 : q_dec prog_12_method_51_code 102 (.getfield 48) 3 105 := ⟨by decide +kernel, rfl⟩
theorem d_X10_restore_105 : q_dec prog_12_method_51_code 105 (.iload_n 2) 1 106 := ⟨by decide +kernel, rfl⟩
theorem d_X10_restore_106 : q_dec prog_12_method_51_code 106 (.bipush 56) 2 108 := ⟨by decide +kernel, rfl⟩
theorem d_X10_restore_108 : q_dec prog_12_method_51_code 108 (.iadd) 1 109 := ⟨by decide +kernel, rfl⟩
theorem d_X10_restore_109 : q_dec prog_12_method_51_code 109 (.iload_n 3) 1 110 := ⟨by decide +kernel, rfl⟩
theorem d_X10_restore_110 : q_dec prog_12_method_51_code 110 (.iadd) 1 111 := ⟨by decide +kernel, rfl⟩
theorem d_X10_restore_111 : q_dec prog_12_method_51_code 111 (.iaload) 1 112 := ⟨by decide +kernel, rfl⟩
theorem d_X10_restore_112 : q_dec prog_12_method_51_code 112 (.iastore) 1 113 := ⟨by decide +kernel, rfl⟩
theorem d_X10_restore_113 : q_dec prog_12_method_51_code 113 (.iinc 3 1) 3 116 := ⟨by decide +kernel, rfl⟩
theorem d_X10_restore_116 : q_dec prog_12_method_51_code 116 (.goto (-26)) 3 119 := ⟨by decide +kernel, rfl⟩
theorem d_X10_restore_119 : q_dec prog_12_method_51_code 119 (.aload_n 0) 1 120 := ⟨by decide +kernel, rfl⟩
theorem d_X10_restore_120 : q_dec prog_12_method_51_code 120 (.aload_n 0) 1 121 := ⟨by decide +kernel, rfl⟩
theorem d_X10_restore_121 : q_dec prog_12_method_51_code 121 (.getfield 48) 3 124 := ⟨by decide +kernel, rfl⟩
theorem d_X10_restore_124 : q_dec prog_12_method_51_code 124 (.iload_n 2) 1 125 := ⟨by decide +kernel, rfl⟩
theorem d_X10_restore_125 : q_dec prog_12_method_51_code 125 (.bipush 80) 2 127 := ⟨by decide +kernel, rfl⟩
theorem d_X10_restore_127 : q_dec prog_12_method_51_code 127 (.iadd) 1 128 := ⟨by decide +kernel, rfl⟩
theorem d_X10_restore_128 : q_dec prog_12_method_51_code 128 (.iaload) 1 129 := ⟨by decide +kernel, rfl⟩
theorem d_X10_restore_129 : q_dec prog_12_method_51_code 129 (.putfield 59) 3 132 := ⟨by decide +kernel, rfl⟩
theorem d_X10_restore_132 : q_dec prog_12_method_51_code 132 (.aload_n 0) 1 133 := ⟨by decide +kernel, rfl⟩
theorem d_X10_restore_133 : q_dec prog_12_method_51_code 133 (.aload_n 0) 1 134 := ⟨by decide +kernel, rfl⟩
theorem d_X10_restore_134 : q_dec prog_12_method_51_code 134 (.getfield 48) 3 137 := ⟨by decide +kernel, rfl⟩
theorem d_X10_restore_137 : q_dec prog_12_method_51_code 137 (.iload_n 2) 1 138 := ⟨by decide +kernel, rfl⟩
theorem d_X10_restore_138 : q_dec prog_12_method_51_code 138 (.bipush 81) 2 140 := ⟨by decide +kernel, rfl⟩
theorem d_X10_restore_140 : q_dec prog_12_method_51_code 140 (.iadd) 1 141 := ⟨by decide +kernel, rfl⟩
theorem d_X10_restore_141 : q_dec prog_12_method_51_code 141 (.iaload) 1 142 := ⟨by decide +kernel, rfl⟩
theorem d_X10_restore_142 : q_dec prog_12_method_51_code 142 (.putfield 70) 3 145 := ⟨by decide +kernel, rfl⟩
theorem d_X10_restore_145 : q_dec prog_12_method_51_code 145 (.aload_n 0) 1 146 := ⟨by decide +kernel, rfl⟩
theorem d_X10_restore_146 : q_dec prog_12_method_51_code 146 (.aload_n 0) 1 147 := ⟨by decide +kernel, rfl⟩
theorem d_X10_restore_147 : q_dec prog_12_method_51_code 147 (.getfield 48) 3 150 := ⟨by decide +kernel, rfl⟩
theorem d_X10_restore_150 : q_dec prog_12_method_51_code 150 (.iload_n 2) 1 151 := ⟨by decide +kernel, rfl⟩
theorem d_X10_restore_151 : q_dec prog_12_method_51_code 151 (.bipush 82) 2 153 := ⟨by decide +kernel, rfl⟩
theorem d_X10_restore_153 : q_dec prog_12_method_51_code 153 (.iadd) 1 154 := ⟨by decide +kernel, rfl⟩
theorem d_X10_restore_154 : q_dec prog_12_method_51_code 154 (.iaload) 1 155 := ⟨by decide +kernel, rfl⟩
theorem d_X10_restore_155 : q_dec prog_12_method_51_code 155 (.putfield 19) 3 158 := ⟨by decide +kernel, rfl⟩
theorem d_X10_restore_158 : q_dec prog_12_method_51_code 158 (.aload_n 0) 1 159 := ⟨by decide +kernel, rfl⟩
theorem d_X10_restore_159 : q_dec prog_12_method_51_code 159 (.aload_n 0) 1 160 := ⟨by decide +kernel, rfl⟩
theorem d_X10_restore_160 : q_dec prog_12_method_51_code 160 (.getfield 48) 3 163 := ⟨by decide +kernel, rfl⟩
theorem d_X10_restore_163 : q_dec prog_12_method_51_code 163 (.iload_n 2) 1 164 := ⟨by decide +kernel, rfl⟩
theorem d_X10_restore_164 : q_dec prog_12_method_51_code 164 (.bipush 83) 2 166 := ⟨by decide +kernel, rfl⟩
theorem d_X10_restore_166 : q_dec prog_12_method_51_code 166 (.iadd) 1 167 := ⟨by decide +kernel, rfl⟩
theorem d_X10_restore_167 : q_dec prog_12_method_51_code 167 (.iaload) 1 168 := ⟨by decide +kernel, rfl⟩
theorem d_X10_restore_168 : q_dec prog_12_method_51_code 168 (.putfield 155) 3 171 := ⟨by decide +kernel, rfl⟩
theorem d_X10_restore_171 : q_dec prog_12_method_51_code 171 (.iconst 1) 1 172 := ⟨by decide +kernel, rfl⟩
theorem d_X10_restore_172 : q_dec prog_12_method_51_code 172 (.ireturn) 1 173 := ⟨by decide +kernel, rfl⟩
theorem m_X10_restore : q_wV y_X10_restore prog_12_method_51_code 4 (some .int) 1 := ⟨q_mem 948 (by decide +kernel) (by decide +kernel), q_mem 946 (by decide +kernel) (by decide +kernel), q_mem 947 (by decide +kernel) (by decide +kernel), q_mem 11 (by decide +kernel) (by decide +kernel), by decide +kernel⟩
theorem d_X10_told_0 : q_dec prog_12_method_52_code 0 (.iload_n 1) 1 1 := ⟨by decide +kernel, rfl⟩
theorem d_X10_told_1 : q_dec prog_12_method_52_code 1 (.bipush 10) 2 3 := ⟨by decide +kernel, rfl⟩
theorem d_X10_told_3 : q_dec prog_12_method_52_code 3 (.if_icmp .lt 162) 3 6 := ⟨by decide +kernel, rfl⟩
theorem d_X10_told_6 : q_dec prog_12_method_52_code 6 (.iload_n 1) 1 7 := ⟨by decide +kernel, rfl⟩
theorem d_X10_told_7 : q_dec prog_12_method_52_code 7 (.bipush 10) 2 9 := ⟨by decide +kernel, rfl⟩
theorem d_X10_told_9 : q_dec prog_12_method_52_code 9 (.idiv) 1 10 := ⟨by decide +kernel, rfl⟩
theorem d_X10_told_10 : q_dec prog_12_method_52_code 10 (.iconst 1) 1 11 := ⟨by decide +kernel, rfl⟩
theorem d_X10_told_11 : q_dec prog_12_method_52_code 11 (.isub) 1 12 := ⟨by decide +kernel, rfl⟩
theorem d_X10_told_12 : q_dec prog_12_method_52_code 12 (.istore_n 2) 1 13 := ⟨by decide +kernel, rfl⟩
theorem d_X10_told_13 : q_dec prog_12_method_52_code 13 (.aload_n 0) 1 14 := ⟨by decide +kernel, rfl⟩
theorem d_X10_told_14 : q_dec prog_12_method_52_code 14 (.iload_n 2) 1 15 := ⟨by decide +kernel, rfl⟩
theorem d_X10_told_15 : q_dec prog_12_method_52_code 15 (.invokevirtual 77) 3 18 := ⟨by decide +kernel, rfl⟩
theorem d_X10_told_18 : q_dec prog_12_method_52_code 18 (.ifCond .ne 6) 3 21 := ⟨by decide +kernel, rfl⟩
theorem d_X10_told_21 : q_dec prog_12_method_52_code 21 (.bipush (-2)) 2 23 := ⟨by decide +kernel, rfl⟩
theorem d_X10_told_23 : q_dec prog_12_method_52_code 23 (.ireturn) 1 24 := ⟨by decide +kernel, rfl⟩
theorem d_X10_told_24 : q_dec prog_12_method_52_code 24 (.aload_n 0) 1 25 := ⟨by decide +kernel, rfl⟩
theorem d_X10_told_25 : q_dec prog_12_method_52_code 25 (.invokevirtual 117) 3 28 := ⟨by decide +kernel, rfl⟩
theorem d_X10_told_28 : q_dec prog_12_method_52_code 28 (.iload_n 1) 1 29 := ⟨by decide +kernel, rfl⟩
theorem d_X10_told_29 : q_dec prog_12_method_52_code 29 (.bipush 10) 2 31 := ⟨by decide +kernel, rfl⟩
theorem d_X10_told_31 : q_dec prog_12_method_52_code 31 (.irem) 1 32 := ⟨by decide +kernel, rfl⟩
theorem d_X10_told_32 : q_dec prog_12_method_52_code 32 (.tableswitch 116 0 9 #[56, 66, 73, 79, 116, 116, 116, 116, 116, 93]) 56 88 := ⟨by decide +kernel, rfl⟩
theorem d_X10_told_88 : q_dec prog_12_method_52_code 88 (.aload_n 0) 1 89 := ⟨by decide +kernel, rfl⟩
theorem d_X10_told_89 : q_dec prog_12_method_52_code 89 (.getfield 13) 3 92 := ⟨by decide +kernel, rfl⟩
theorem d_X10_told_92 : q_dec prog_12_method_52_code 92 (.bipush 6) 2 94 := ⟨by decide +kernel, rfl⟩
theorem d_X10_told_94 : q_dec prog_12_method_52_code 94 (.iload_n 2) 1 95 := ⟨by decide +kernel, rfl⟩
theorem d_X10_told_95 : q_dec prog_12_method_52_code 95 (.imul) 1 96 := ⟨by decide +kernel, rfl⟩
theorem d_X10_told_96 : q_dec prog_12_method_52_code 96 (.iaload) 1 97 := ⟨by decide +kernel, rfl⟩
theorem d_X10_told_97 : q_dec prog_12_method_52_code 97 (.ireturn) 1 98 := ⟨by decide +kernel, rfl⟩
theorem d_X10_told_98 : q_dec prog_12_method_52_code 98 (.aload_n 0) 1 99 := ⟨by decide +kernel, rfl⟩
theorem d_X10_told_99 : q_dec prog_12_method_52_code 99 (.getfield 16) 3 102 := ⟨by decide +kernel, rfl⟩
theorem d_X10_told_102 : q_dec prog_12_method_52_code 102 (.iload_n 2) 1 103 := ⟨by decide +kernel, rfl⟩
theorem d_X10_told_103 : q_dec prog_12_method_52_code 103 (.iaload) 1 104 := ⟨by decide +kernel, rfl⟩
theorem d_X10_told_104 : q_dec prog_12_method_52_code 104 (.ireturn) 1 105 := ⟨by decide +kernel, rfl⟩
theorem d_X10_told_105 : q_dec prog_12_method_52_code 105 (.aload_n 0) 1 106 := ⟨by decide +kernel, rfl⟩
theorem d_X10_told_106 : q_dec prog_12_method_52_code 106 (.iload_n 2) 1 107 := ⟨by decide +kernel, rfl⟩
theorem d_X10_told_107 : q_dec prog_12_method_52_code 107 (.invokevirtual 96) 3 110 := ⟨by decide +kernel, rfl⟩
theorem d_X10_told_110 : q_dec prog_12_method_52_code 110 (.ireturn) 1 111 := ⟨by decide +kernel, rfl⟩
theorem d_X10_told_111 : q_dec prog_12_method_52_code 111 (.aload_n 0) 1 112 := ⟨by decide +kernel, rfl⟩
theorem d_X10_told_112 : q_dec prog_12_method_52_code 112 (.iload_n 2) 1 113 := ⟨by decide +kernel, rfl⟩
theorem d_X10_told_113 : q_dec prog_12_method_52_code 113 (.invokevirtual 93) 3 116 := ⟨by decide +kernel, rfl⟩
theorem d_X10_told_116 : q_dec prog_12_method_52_code 116 (.ifCond .eq 7) 3 119 := ⟨by decide +kernel, rfl⟩
theorem d_X10_told_119 : q_dec prog_12_method_52_code 119 (.iconst 1) 1 120 := ⟨by decide +kernel, rfl⟩
theorem d_X10_told_120 : q_dec prog_12_method_52_code 120 (.goto 4) 3 123 := ⟨by decide +kernel, rfl⟩
theorem d_X10_told_123 : q_dec prog_12_method_52_code 123 (.iconst 0) 1 124 := ⟨by decide +kernel, rfl⟩
theorem d_X10_told_124 : q_dec prog_12_method_52_code 124 (.ireturn) 1 125 := ⟨by decide +kernel, rfl⟩
theorem d_X10_told_125 : q_dec prog_12_method_52_code 125 (.aload_n 0) 1 126 := ⟨by decide +kernel, rfl⟩
theorem d_X10_told_126 : q_dec prog_12_method_52_code 126 (.iload_n 2) 1 127 := ⟨by decide +kernel, rfl⟩
theorem d_X10_told_127 : q_dec prog_12_method_52_code 127 (.invokevirtual 93) 3 130 := ⟨by decide +kernel, rfl⟩
theorem d_X10_told_130 : q_dec prog_12_method_52_code 130 (.ifCond .eq 15) 3 133 := ⟨by decide +kernel, rfl⟩
theorem d_X10_told_133 : q_dec prog_12_method_52_code 133 (.aload_n 0) 1 134 := ⟨by decide +kernel, rfl⟩
theorem d_X10_told_134 : q_dec prog_12_method_52_code 134 (.getfield 13) 3 137 := ⟨by decide +kernel, rfl⟩
theorem d_X10_told_137 : q_dec prog_12_method_52_code 137 (.bipush 42) 2 139 := ⟨by decide +kernel, rfl⟩
theorem d_X10_told_139 : q_dec prog_12_method_52_code 139 (.iload_n 2) 1 140 := ⟨by decide +kernel, rfl⟩
theorem d_X10_told_140 : q_dec prog_12_method_52_code 140 (.iadd) 1 141 := ⟨by decide +kernel, rfl⟩
theorem d_X10_told_141 : q_dec prog_12_method_52_code 141 (.iaload) 1 142 := ⟨by decide +kernel, rfl⟩
theorem d_X10_told_142 : q_dec prog_12_method_52_code 142 (.goto 5) 3 145 := ⟨by decide +kernel, rfl⟩
theorem d_X10_told_145 : q_dec prog_12_method_52_code 145 (.bipush (-6)) 2 147 := ⟨by decide +kernel, rfl⟩
theorem d_X10_told_147 : q_dec prog_12_method_52_code 147 (.ireturn) 1 148 := ⟨by decide +kernel, rfl⟩
theorem d_X10_told_148 : q_dec prog_12_method_52_code 148 (.aload_n 0) 1 149 := ⟨by decide +kernel, rfl⟩
theorem d_X10_told_149 : q_dec prog_12_method_52_code 149 (.getfield 13) 3 152 := ⟨by decide +kernel, rfl⟩
theorem d_X10_told_152 : q_dec prog_12_method_52_code 152 (.bipush 6) 2 154 := ⟨by decide +kernel, rfl⟩
theorem d_X10_told_154 : q_dec prog_12_method_52_code 154 (.iload_n 2) 1 155 := ⟨by decide +kernel, rfl⟩
theorem d_X10_told_155 : q_dec prog_12_method_52_code 155 (.imul) 1 156 := ⟨by decide +kernel, rfl⟩
theorem d_X10_told_156 : q_dec prog_12_method_52_code 156 (.iload_n 1) 1 157 := ⟨by decide +kernel, rfl⟩
theorem d_X10_told_157 : q_dec prog_12_method_52_code 157 (.bipush 10) 2 159 := ⟨by decide +kernel, rfl⟩
theorem d_X10_told_159 : q_dec prog_12_method_52_code 159 (.irem) 1 160 := ⟨by decide +kernel, rfl⟩
theorem d_X10_told_160 : q_dec prog_12_method_52_code 160 (.iadd) 1 161 := ⟨by decide +kernel, rfl⟩
theorem d_X10_told_161 : q_dec prog_12_method_52_code 161 (.iconst 3) 1 162 := ⟨by decide +kernel, rfl⟩
theorem d_X10_told_162 : q_dec prog_12_method_52_code 162 (.isub) 1 163 := ⟨by decide +kernel, rfl⟩
theorem d_X10_told_163 : q_dec prog_12_method_52_code 163 (.iaload) 1 164 := ⟨by decide +kernel, rfl⟩
theorem d_X10_told_164 : q_dec prog_12_method_52_code 164 (.ireturn) 1 165 := ⟨by decide +kernel, rfl⟩
theorem d_X10_told_165 : q_dec prog_12_method_52_code 165 (.iload_n 1) 1 166 := ⟨by decide +kernel, rfl⟩
theorem d_X10_told_166 : q_dec prog_12_method_52_code 166 (.tableswitch 68 0 5 #[38, 43, 48, 53, 58, 58]) 38 204 := ⟨by decide +kernel, rfl⟩
theorem d_X10_told_204 : q_dec prog_12_method_52_code 204 (.aload_n 0) 1 205 := ⟨by decide +kernel, rfl⟩
theorem d_X10_told_205 : q_dec prog_12_method_52_code 205 (.getfield 80) 3 208 := ⟨by decide +kernel, rfl⟩
theorem d_X10_told_208 : q_dec prog_12_method_52_code 208 (.ireturn) 1 209 := ⟨by decide +kernel, rfl⟩
theorem d_X10_told_209 : q_dec prog_12_method_52_code 209 (.aload_n 0) 1 210 := ⟨by decide +kernel, rfl⟩
theorem d_X10_told_210 : q_dec prog_12_method_52_code 210 (.getfield 59) 3 213 := ⟨by decide +kernel, rfl⟩
theorem d_X10_told_213 : q_dec prog_12_method_52_code 213 (.ireturn) 1 214 := ⟨by decide +kernel, rfl⟩
theorem d_X10_told_214 : q_dec prog_12_method_52_code 214 (.aload_n 0) 1 215 := ⟨by decide +kernel, rfl⟩
theorem d_X10_told_215 : q_dec prog_12_method_52_code 215 (.getfield 70) 3 218 := ⟨by decide +kernel, rfl⟩
theorem d_X10_told_218 : q_dec prog_12_method_52_code 218 (.ireturn) 1 219 := ⟨by decide +kernel, rfl⟩
theorem d_X10_told_219 : q_dec prog_12_method_52_code 219 (.aload_n 0) 1 220 := ⟨by decide +kernel, rfl⟩
theorem d_X10_told_220 : q_dec prog_12_method_52_code 220 (.getfield 19) 3 223 := ⟨by decide +kernel, rfl⟩
theorem d_X10_told_223 : q_dec prog_12_method_52_code 223 (.ireturn) 1 224 := ⟨by decide +kernel, rfl⟩
theorem d_X10_told_224 : q_dec prog_12_method_52_code 224 (.aload_n 0) 1 225 := ⟨by decide +kernel, rfl⟩
theorem d_X10_told_225 : q_dec prog_12_method_52_code 225 (.getfield 7) 3 228 := ⟨by decide +kernel, rfl⟩
theorem d_X10_told_228 : q_dec prog_12_method_52_code 228 (.bipush 44) 2 230 := ⟨by decide +kernel, rfl⟩
theorem d_X10_told_230 : q_dec prog_12_method_52_code 230 (.iload_n 1) 1 231 := ⟨by decide +kernel, rfl⟩
theorem d_X10_told_231 : q_dec prog_12_method_52_code 231 (.iadd) 1 232 := ⟨by decide +kernel, rfl⟩
theorem d_X10_told_232 : q_dec prog_12_method_52_code 232 (.iaload) 1 233 := ⟨by decide +kernel, rfl⟩
theorem d_X10_told_233 : q_dec prog_12_method_52_code 233 (.ireturn) 1 234 := ⟨by decide +kernel, rfl⟩
theorem d_X10_told_234 : q_dec prog_12_method_52_code 234 (.iload_n 1) 1 235 := ⟨by decide +kernel, rfl⟩
theorem d_X10_told_235 : q_dec prog_12_method_52_code 235 (.bipush 6) 2 237 := ⟨by decide +kernel, rfl⟩
theorem d_X10_told_237 : q_dec prog_12_method_52_code 237 (.if_icmp .ne 10) 3 240 := ⟨by decide +kernel, rfl⟩
theorem d_X10_told_240 : q_dec prog_12_method_52_code 240 (.aload_n 0) 1 241 := ⟨by decide +kernel, rfl⟩
theorem d_X10_told_241 : q_dec prog_12_method_52_code 241 (.getfield 155) 3 244 := ⟨by decide +kernel, rfl⟩
theorem d_X10_told_244 : q_dec prog_12_method_52_code 244 (.goto 5) 3 247 := ⟨by decide +kernel, rfl⟩
theorem d_X10_told_247 : q_dec prog_12_method_52_code 247 (.bipush (-2)) 2 249 := ⟨by decide +kernel, rfl⟩
theorem d_X10_told_249 : q_dec prog_12_method_52_code 249 (.ireturn) 1 250 := ⟨by decide +kernel, rfl⟩
theorem m_X10_told : q_wV y_X10_told prog_12_method_52_code 3 (some .int) 1 := ⟨q_mem 952 (by decide +kernel) (by decide +kernel), q_mem 950 (by decide +kernel) (by decide +kernel), q_mem 951 (by decide +kernel) (by decide +kernel), q_mem 11 (by decide +kernel) (by decide +kernel), by decide +kernel⟩
def f_X10_backBy_15 (N : Nat)  (x1 : Int32)  : Nat → Int32 → Int32 → Int32 → Option Int32
  | 0, _, _, _ => none
  | n + 1, x2, x3, x4 =>
    if x1 ≤ x4 then (some x2)
    else (if (q_rem x3 3) = 1 then (f_X10_backBy_15 N x1 n (x2 - (-1)) (x3 / 3) (x4 + 1))
      else (if (q_rem x3 3) = 2 then (f_X10_backBy_15 N x1 n (x2 - 1) (x3 / 3) (x4 + 1))
        else (f_X10_backBy_15 N x1 n (x2 - 0) (x3 / 3) (x4 + 1))))
def f_X10_backBy (N : Nat) (a0 : Int32) (a1 : Int32) : Option Int32 :=
  f_X10_backBy_15 N a1 N (a0 / 243) (q_rem a0 243) 0
set_option maxRecDepth 20000 in
theorem t_X10_backBy_15 {Z : q_Z} {Γ : q_C} {σ : q_S} {r : Int32} (B : q_B Z Γ prog_12_method_34_code "WaterOthersModel" 5 1) (En : q_E Z Γ (some .int) (some (.int r)) σ) (N : Nat)  (x1 : Int32)   : ∀ (n : Nat) (x2 : Int32) (x3 : Int32) (x4 : Int32), f_X10_backBy_15 N x1 n x2 x3 x4 = some r → q_G Z Γ 5 σ 15 [(1, .int x1), (2, .int x2), (3, .int x3), (4, .int x4)] [] := by
  intro n
  induction n with
  | zero =>
    intro x2 x3 x4 h
    cases h
  | succ n ih =>
    intro x2 x3 x4 h
    unfold f_X10_backBy_15 at h
    refine g_iload B d_X10_backBy_15 rfl ?_
    refine g_iload_n B d_X10_backBy_17 rfl rfl ?_
    refine g_icmp_ge (tgt := 57) B d_X10_backBy_18 (by decide) h (fun h => ?_) (fun h => ?_)
    · refine g_iload_n B d_X10_backBy_57 rfl rfl ?_
      obtain rfl := q_po h
      exact g_iret B En d_X10_backBy_58
    · refine g_iload_n B d_X10_backBy_21 rfl rfl ?_
      refine g_iload_n B d_X10_backBy_22 rfl rfl ?_
      refine g_iconst (v := 3) B d_X10_backBy_23 (by decide) ?_
      refine g_irem B d_X10_backBy_24 (by decide) ?_
      refine g_iconst (v := 1) B d_X10_backBy_25 (by decide) ?_
      refine g_icmp_ne (tgt := 33) B d_X10_backBy_26 (by decide) h (fun h => ?_) (fun h => ?_)
      · refine g_iload_n B d_X10_backBy_33 rfl rfl ?_
        refine g_iconst (v := 3) B d_X10_backBy_34 (by decide) ?_
        refine g_irem B d_X10_backBy_35 (by decide) ?_
        refine g_iconst (v := 2) B d_X10_backBy_36 (by decide) ?_
        refine g_icmp_ne (tgt := 44) B d_X10_backBy_37 (by decide) h (fun h => ?_) (fun h => ?_)
        · refine g_iconst (v := 0) B d_X10_backBy_44 (by decide) ?_
          refine g_isub B d_X10_backBy_45 ?_
          refine g_istore_n B d_X10_backBy_46 rfl (by decide) ?_
          refine g_iload_n B d_X10_backBy_47 rfl rfl ?_
          refine g_iconst (v := 3) B d_X10_backBy_48 (by decide) ?_
          refine g_idiv B d_X10_backBy_49 (by decide) ?_
          refine g_istore_n B d_X10_backBy_50 rfl (by decide) ?_
          refine g_iinc (v := (x4 + 1)) B d_X10_backBy_51 rfl rfl (by decide) ?_
          refine g_goto (tgt := 15) B d_X10_backBy_54 (by decide) ?_
          exact g_cut rfl (ih (x2 - 0) (x3 / 3) (x4 + 1) h)
        · refine g_iconst (v := 1) B d_X10_backBy_40 (by decide) ?_
          refine g_goto (tgt := 45) B d_X10_backBy_41 (by decide) ?_
          refine g_isub B d_X10_backBy_45 ?_
          refine g_istore_n B d_X10_backBy_46 rfl (by decide) ?_
          refine g_iload_n B d_X10_backBy_47 rfl rfl ?_
          refine g_iconst (v := 3) B d_X10_backBy_48 (by decide) ?_
          refine g_idiv B d_X10_backBy_49 (by decide) ?_
          refine g_istore_n B d_X10_backBy_50 rfl (by decide) ?_
          refine g_iinc (v := (x4 + 1)) B d_X10_backBy_51 rfl rfl (by decide) ?_
          refine g_goto (tgt := 15) B d_X10_backBy_54 (by decide) ?_
          exact g_cut rfl (ih (x2 - 1) (x3 / 3) (x4 + 1) h)
      · refine g_iconst (v := (-1)) B d_X10_backBy_29 (by decide) ?_
        refine g_goto (tgt := 45) B d_X10_backBy_30 (by decide) ?_
        refine g_isub B d_X10_backBy_45 ?_
        refine g_istore_n B d_X10_backBy_46 rfl (by decide) ?_
        refine g_iload_n B d_X10_backBy_47 rfl rfl ?_
        refine g_iconst (v := 3) B d_X10_backBy_48 (by decide) ?_
        refine g_idiv B d_X10_backBy_49 (by decide) ?_
        refine g_istore_n B d_X10_backBy_50 rfl (by decide) ?_
        refine g_iinc (v := (x4 + 1)) B d_X10_backBy_51 rfl rfl (by decide) ?_
        refine g_goto (tgt := 15) B d_X10_backBy_54 (by decide) ?_
        exact g_cut rfl (ih (x2 - (-1)) (x3 / 3) (x4 + 1) h)
set_option maxRecDepth 20000 in
theorem t_X10_backBy {Z : q_Z} {l : Launch} (N : Nat) (a0 : Int32) (a1 : Int32)  (σ : q_S) {r : Int32} (h : f_X10_backBy N a0 a1 = some r) : q_M Z l y_X10_backBy prog_12_method_34_code 5 (some .int) 1 [.int a0, .int a1] σ (some (.int r)) σ := by
  refine q_met (by decide +kernel) (Nat.le_of_ble_eq_true rfl) (fun Γ hΓ B En => ?_)
  unfold f_X10_backBy at h
  refine g_cut (lv' := [(0, .int a0), (1, .int a1)]) rfl ?_
  refine g_iload_n B d_X10_backBy_0 rfl rfl ?_
  refine g_sipush (v := 243) B d_X10_backBy_1 (by decide) ?_
  refine g_idiv B d_X10_backBy_4 (by decide) ?_
  refine g_istore_n B d_X10_backBy_5 rfl (by decide) ?_
  refine g_iload_n B d_X10_backBy_6 rfl rfl ?_
  refine g_sipush (v := 243) B d_X10_backBy_7 (by decide) ?_
  refine g_irem B d_X10_backBy_10 (by decide) ?_
  refine g_istore_n B d_X10_backBy_11 rfl (by decide) ?_
  refine g_iconst (v := 0) B d_X10_backBy_12 (by decide) ?_
  refine g_istore B d_X10_backBy_13 (by decide) ?_
  exact g_cut rfl (t_X10_backBy_15 B En N a1 N (a0 / 243) (q_rem a0 243) 0 h)

theorem w_WaterOthersModel_144 : Cond.methodLink "WaterOthersModel" 144 y_X10_backBy ∈ q_tbl := q_mem 884 (by decide +kernel) (by decide +kernel)
theorem w_WaterOthersModel_29 : Cond.fieldLink "WaterOthersModel" 29 "WaterOthersModel" "acts1" "[I" ∈ q_tbl := q_mem 699 (by decide +kernel) (by decide +kernel)
theorem w_WaterOthersModel_32 : Cond.fieldLink "WaterOthersModel" 32 "WaterOthersModel" "queue" "[I" ∈ q_tbl := q_mem 700 (by decide +kernel) (by decide +kernel)
def f_X10_tripTo_89 (N : Nat) (k55 : Int32 → Int32 → q_S → Option (Int32 × q_S)) (x1 : Int32) (x2 : Int32) (x3 : Int32) (x4 : Int32) (x5 : Int32) (x6 : Int32) (σ : q_S) : Option (Int32 × q_S) :=
  if (0 : Int32) ≤ x6 then (if x6 ≤ 0 then (k55 ((3 * x4) + 0) (x5 + (-1)) σ)
    else (k55 ((3 * x4) + 2) (x5 + (-1)) σ))
  else (k55 ((3 * x4) + 1) (x5 + (-1)) σ)
def f_X10_tripTo_378 (N : Nat) (k164 : Int32 → Int32 → q_S → Option (Int32 × q_S)) (k222 : Int32 → Int32 → q_S → Option (Int32 × q_S)) (x1 : Int32) (x2 : Int32) (x3 : Int32) (x6 : Int32) (x7 : Int32) (x8 : Int32) (x9 : Int32) (x10 : Int32) (x11 : Int32) (x12 : Int32) (x14 : Int32) (t1 : Int32) (t2 : Int32) (t3 : Int32) (σ : q_S) : Option (Int32 × q_S) :=
  if ¬ ((t1 : Int32) < 0 ∨ 4860 ≤ (t1 : Int32).toNatClampNeg) then if ¬ ((x6 : Int32) < 0 ∨ 4860 ≤ (x6 : Int32).toNatClampNeg) then k222 (x6 + 1) (x12 + 1) (q_w (q_w σ 90 (t1 : Int32).toNatClampNeg (t2 + t3)) 91 (x6 : Int32).toNatClampNeg x14) else none else none
def f_X10_tripTo_328 (N : Nat) (k164 : Int32 → Int32 → q_S → Option (Int32 × q_S)) (k222 : Int32 → Int32 → q_S → Option (Int32 × q_S)) (x1 : Int32) (x2 : Int32) (x3 : Int32) (x6 : Int32) (x7 : Int32) (x8 : Int32) (x9 : Int32) (x10 : Int32) (x11 : Int32) (x12 : Int32) (x14 : Int32) (t0 : Int32) (σ : q_S) : Option (Int32 × q_S) :=
  if t0 = 0 then (k222 x6 (x12 + 1) σ)
  else (if ¬ ((x14 : Int32) < 0 ∨ 4860 ≤ (x14 : Int32).toNatClampNeg) then if (0 : Int32) ≤ (σ.1 90 (x14 : Int32).toNatClampNeg) then (k222 x6 (x12 + 1) σ)
    else (if x11 = 0 then (f_X10_tripTo_378 N (k164) (k222) x1 x2 x3 x6 x7 x8 x9 x10 x11 x12 x14 x14 (10 * (x11 + 1)) x12 σ)
      else (if ¬ ((x9 : Int32) < 0 ∨ 4860 ≤ (x9 : Int32).toNatClampNeg) then f_X10_tripTo_378 N (k164) (k222) x1 x2 x3 x6 x7 x8 x9 x10 x11 x12 x14 x14 (10 * (x11 + 1)) (q_rem (σ.1 90 (x9 : Int32).toNatClampNeg) 10) σ else none)) else none)
def f_X10_tripTo_251 (N : Nat) (k164 : Int32 → Int32 → q_S → Option (Int32 × q_S)) (k222 : Int32 → Int32 → q_S → Option (Int32 × q_S)) (x1 : Int32) (x2 : Int32) (x3 : Int32) (x6 : Int32) (x7 : Int32) (x8 : Int32) (x9 : Int32) (x10 : Int32) (x11 : Int32) (x12 : Int32) (t0 : Int32) (t1 : Int32) (σ : q_S) : Option (Int32 × q_S) :=
  if (f_X10_isCell (t0 + t1)) = 0 then (f_X10_tripTo_328 N (k164) (k222) x1 x2 x3 x6 x7 x8 x9 x10 x11 x12 (((243 * (t0 + t1)) + ((q_rem x9 81) * 3)) + x12) 0 σ)
  else (if x12 = 0 then (f_X10_tripTo_328 N (k164) (k222) x1 x2 x3 x6 x7 x8 x9 x10 x11 x12 (((243 * (t0 + t1)) + ((q_rem x9 81) * 3)) + x12) 1 σ)
    else (if x3 = 0 then (f_X10_tripTo_328 N (k164) (k222) x1 x2 x3 x6 x7 x8 x9 x10 x11 x12 (((243 * (t0 + t1)) + ((q_rem x9 81) * 3)) + x12) 1 σ)
      else (if ¬ ((x1 : Int32) < 0 ∨ 6 ≤ (x1 : Int32).toNatClampNeg) then (f_X10_backBy N (((243 * (t0 + t1)) + ((q_rem x9 81) * 3)) + x12) (σ.1 87 (x1 : Int32).toNatClampNeg)).bind fun z304 =>
        if (f_X10_in ((t0 + t1) - z304) (-(σ.1 84 5)) (σ.1 84 5)) = 0 then (f_X10_tripTo_328 N (k164) (k222) x1 x2 x3 x6 x7 x8 x9 x10 x11 x12 (((243 * (t0 + t1)) + ((q_rem x9 81) * 3)) + x12) 0 σ)
        else (f_X10_tripTo_328 N (k164) (k222) x1 x2 x3 x6 x7 x8 x9 x10 x11 x12 (((243 * (t0 + t1)) + ((q_rem x9 81) * 3)) + x12) 1 σ) else none)))
def f_X10_tripTo_222 (N : Nat) (k164 : Int32 → Int32 → q_S → Option (Int32 × q_S)) (x1 : Int32) (x2 : Int32) (x3 : Int32) (x7 : Int32) (x8 : Int32) (x9 : Int32) (x10 : Int32) (x11 : Int32)  : Nat → Int32 → Int32 → q_S → Option (Int32 × q_S)
  | 0, _, _, _ => none
  | n + 1, x6, x12, σ =>
    if (3 : Int32) ≤ x12 then (k164 x6 (x8 + 1) σ)
    else (if x12 = 1 then (f_X10_tripTo_251 N (k164) (fun x6 x12 σ => f_X10_tripTo_222 N k164 x1 x2 x3 x7 x8 x9 x10 x11 n x6 x12 σ) x1 x2 x3 x6 x7 x8 x9 x10 x11 x12 x10 (-1) σ)
      else (if x12 = 2 then (f_X10_tripTo_251 N (k164) (fun x6 x12 σ => f_X10_tripTo_222 N k164 x1 x2 x3 x7 x8 x9 x10 x11 n x6 x12 σ) x1 x2 x3 x6 x7 x8 x9 x10 x11 x12 x10 1 σ)
        else (f_X10_tripTo_251 N (k164) (fun x6 x12 σ => f_X10_tripTo_222 N k164 x1 x2 x3 x7 x8 x9 x10 x11 n x6 x12 σ) x1 x2 x3 x6 x7 x8 x9 x10 x11 x12 x10 0 σ)))
def f_X10_tripTo_164 (N : Nat)  (x1 : Int32) (x2 : Int32) (x3 : Int32) (x7 : Int32)  : Nat → Int32 → Int32 → q_S → Option (Int32 × q_S)
  | 0, _, _, _ => none
  | n + 1, x6, x8, σ =>
    if x6 ≤ x8 then (some (x7, σ))
    else (if ¬ ((x8 : Int32) < 0 ∨ 4860 ≤ (x8 : Int32).toNatClampNeg) then if ¬ (((σ.1 91 (x8 : Int32).toNatClampNeg) : Int32) < 0 ∨ 4860 ≤ ((σ.1 91 (x8 : Int32).toNatClampNeg) : Int32).toNatClampNeg) then if ((σ.1 91 (x8 : Int32).toNatClampNeg) / 243) = x2 then (if (0 : Int32) ≤ x7 then (f_X10_tripTo_222 N (fun x6 x8 σ => f_X10_tripTo_164 N x1 x2 x3 x7 n x6 x8 σ) x1 x2 x3 x7 x8 (σ.1 91 (x8 : Int32).toNatClampNeg) ((σ.1 91 (x8 : Int32).toNatClampNeg) / 243) ((σ.1 90 ((σ.1 91 (x8 : Int32).toNatClampNeg) : Int32).toNatClampNeg) / 10) N x6 0 σ)
        else (some ((σ.1 90 ((σ.1 91 (x8 : Int32).toNatClampNeg) : Int32).toNatClampNeg), σ)))
      else (f_X10_tripTo_222 N (fun x6 x8 σ => f_X10_tripTo_164 N x1 x2 x3 x7 n x6 x8 σ) x1 x2 x3 x7 x8 (σ.1 91 (x8 : Int32).toNatClampNeg) ((σ.1 91 (x8 : Int32).toNatClampNeg) / 243) ((σ.1 90 ((σ.1 91 (x8 : Int32).toNatClampNeg) : Int32).toNatClampNeg) / 10) N x6 0 σ) else none else none)
def f_X10_tripTo_55 (N : Nat)  (x1 : Int32) (x2 : Int32) (x3 : Int32)  : Nat → Int32 → Int32 → q_S → Option (Int32 × q_S)
  | 0, _, _, _ => none
  | n + 1, x4, x5, σ =>
    if x5 < 0 then (if ¬ (((6 * x1) : Int32) < 0 ∨ 50 ≤ ((6 * x1) : Int32).toNatClampNeg) then if ¬ ((((243 * (σ.1 86 ((6 * x1) : Int32).toNatClampNeg)) + x4) : Int32) < 0 ∨ 4860 ≤ (((243 * (σ.1 86 ((6 * x1) : Int32).toNatClampNeg)) + x4) : Int32).toNatClampNeg) then f_X10_tripTo_164 N x1 x2 x3 (-1) N 1 0 (q_w (q_w σ 90 (((243 * (σ.1 86 ((6 * x1) : Int32).toNatClampNeg)) + x4) : Int32).toNatClampNeg 0) 91 (0 : Int32).toNatClampNeg ((243 * (σ.1 86 ((6 * x1) : Int32).toNatClampNeg)) + x4)) else none else none)
    else (if ¬ ((((6 * x1) + x5) : Int32) < 0 ∨ 50 ≤ (((6 * x1) + x5) : Int32).toNatClampNeg) then if ¬ (((((6 * x1) + x5) + 1) : Int32) < 0 ∨ 50 ≤ ((((6 * x1) + x5) + 1) : Int32).toNatClampNeg) then f_X10_tripTo_89 N (fun x4 x5 σ => f_X10_tripTo_55 N x1 x2 x3 n x4 x5 σ) x1 x2 x3 x4 x5 ((σ.1 86 (((6 * x1) + x5) : Int32).toNatClampNeg) - (σ.1 86 ((((6 * x1) + x5) + 1) : Int32).toNatClampNeg)) σ else none else none)
def f_X10_tripTo_27 (N : Nat)  (x1 : Int32) (x2 : Int32) (x3 : Int32)  : Nat → Int32 → q_S → Option (Int32 × q_S)
  | 0, _, _ => none
  | n + 1, x4, σ =>
    if (4860 : Int32) ≤ x4 then (f_X10_tripTo_55 N x1 x2 x3 N 0 4 σ)
    else (if ¬ ((x4 : Int32) < 0 ∨ 4860 ≤ (x4 : Int32).toNatClampNeg) then f_X10_tripTo_27 N x1 x2 x3 n (x4 + 1) (q_w σ 90 (x4 : Int32).toNatClampNeg (-1)) else none)
def f_X10_tripTo (N : Nat) (a0 : Int32) (a1 : Int32) (σ : q_S) : Option (Int32 × q_S) :=
  (f_X10_hasParted a0 σ).bind fun z2 =>
  if z2 = 0 then (if (σ.1 86 (48 : Int32).toNatClampNeg) = 0 then (f_X10_tripTo_27 N a0 a1 1 N 0 σ)
    else (f_X10_tripTo_27 N a0 a1 0 N 0 σ))
  else (f_X10_tripTo_27 N a0 a1 0 N 0 σ)
set_option maxRecDepth 20000 in
theorem t_X10_tripTo_89 {Z : q_Z} {Γ : q_C} {r : Int32} {σ' : q_S} (B : q_B Z Γ prog_12_method_35_code "WaterOthersModel" 16 3) (En : q_E Z Γ (some .int) (some (.int r)) σ') (N : Nat) (k55 : Int32 → Int32 → q_S → Option (Int32 × q_S)) (x1 : Int32) (x2 : Int32) (x3 : Int32) (x4 : Int32) (x5 : Int32) (x6 : Int32) (K55 : ∀ (x4 : Int32) (x5 : Int32) (σ : q_S), k55 x4 x5 σ = some (r, σ') → q_G Z Γ 16 σ 55 [(0, .ref (Z.1 84)), (1, .int x1), (2, .int x2), (3, .int x3), (4, .int x4), (5, .int x5)] []) (σ : q_S)  (h : f_X10_tripTo_89 N k55 x1 x2 x3 x4 x5 x6 σ = some (r, σ')) : q_G Z Γ 16 σ 89 [(0, .ref (Z.1 84)), (1, .int x1), (2, .int x2), (3, .int x3), (4, .int x4), (5, .int x5), (6, .int x6)] [] := by
  unfold f_X10_tripTo_89 at h
  refine g_iconst (v := 3) B d_X10_tripTo_89 (by decide) ?_
  refine g_iload B d_X10_tripTo_90 rfl ?_
  refine g_imul B d_X10_tripTo_92 ?_
  refine g_iload B d_X10_tripTo_93 rfl ?_
  refine g_if_ge (tgt := 102) B d_X10_tripTo_95 (by decide) h (fun h => ?_) (fun h => ?_)
  · refine g_iload B d_X10_tripTo_102 rfl ?_
    refine g_if_le (tgt := 111) B d_X10_tripTo_104 (by decide) h (fun h => ?_) (fun h => ?_)
    · refine g_iconst (v := 0) B d_X10_tripTo_111 (by decide) ?_
      refine g_iadd B d_X10_tripTo_112 ?_
      refine g_istore B d_X10_tripTo_113 (by decide) ?_
      refine g_iinc (v := (x5 + (-1))) B d_X10_tripTo_115 rfl rfl (by decide) ?_
      refine g_goto (tgt := 55) B d_X10_tripTo_118 (by decide) ?_
      exact g_cut rfl (K55 ((3 * x4) + 0) (x5 + (-1)) σ h)
    · refine g_iconst (v := 2) B d_X10_tripTo_107 (by decide) ?_
      refine g_goto (tgt := 112) B d_X10_tripTo_108 (by decide) ?_
      refine g_iadd B d_X10_tripTo_112 ?_
      refine g_istore B d_X10_tripTo_113 (by decide) ?_
      refine g_iinc (v := (x5 + (-1))) B d_X10_tripTo_115 rfl rfl (by decide) ?_
      refine g_goto (tgt := 55) B d_X10_tripTo_118 (by decide) ?_
      exact g_cut rfl (K55 ((3 * x4) + 2) (x5 + (-1)) σ h)
  · refine g_iconst (v := 1) B d_X10_tripTo_98 (by decide) ?_
    refine g_goto (tgt := 112) B d_X10_tripTo_99 (by decide) ?_
    refine g_iadd B d_X10_tripTo_112 ?_
    refine g_istore B d_X10_tripTo_113 (by decide) ?_
    refine g_iinc (v := (x5 + (-1))) B d_X10_tripTo_115 rfl rfl (by decide) ?_
    refine g_goto (tgt := 55) B d_X10_tripTo_118 (by decide) ?_
    exact g_cut rfl (K55 ((3 * x4) + 1) (x5 + (-1)) σ h)
set_option maxRecDepth 20000 in
theorem t_X10_tripTo_378 {Z : q_Z} {Γ : q_C} {r : Int32} {σ' : q_S} (B : q_B Z Γ prog_12_method_35_code "WaterOthersModel" 16 3) (En : q_E Z Γ (some .int) (some (.int r)) σ') (N : Nat) (k164 : Int32 → Int32 → q_S → Option (Int32 × q_S)) (k222 : Int32 → Int32 → q_S → Option (Int32 × q_S)) (x1 : Int32) (x2 : Int32) (x3 : Int32) (x6 : Int32) (x7 : Int32) (x8 : Int32) (x9 : Int32) (x10 : Int32) (x11 : Int32) (x12 : Int32) (x14 : Int32) (t1 : Int32) (t2 : Int32) (t3 : Int32) (K164 : ∀ (x6 : Int32) (x8 : Int32) (σ : q_S), k164 x6 x8 σ = some (r, σ') → q_G Z Γ 16 σ 164 [(0, .ref (Z.1 84)), (1, .int x1), (2, .int x2), (3, .int x3), (6, .int x6), (7, .int x7), (8, .int x8)] []) (K222 : ∀ (x6 : Int32) (x12 : Int32) (σ : q_S), k222 x6 x12 σ = some (r, σ') → q_G Z Γ 16 σ 222 [(0, .ref (Z.1 84)), (1, .int x1), (2, .int x2), (3, .int x3), (6, .int x6), (7, .int x7), (8, .int x8), (9, .int x9), (10, .int x10), (11, .int x11), (12, .int x12)] []) (σ : q_S)  (h : f_X10_tripTo_378 N k164 k222 x1 x2 x3 x6 x7 x8 x9 x10 x11 x12 x14 t1 t2 t3 σ = some (r, σ')) : q_G Z Γ 16 σ 378 [(0, .ref (Z.1 84)), (1, .int x1), (2, .int x2), (3, .int x3), (6, .int x6), (7, .int x7), (8, .int x8), (9, .int x9), (10, .int x10), (11, .int x11), (12, .int x12), (14, .int x14)] [.int t3, .int t2, .int t1, .ref (Z.1 90)] := by
  unfold f_X10_tripTo_378 at h
  refine g_iadd B d_X10_tripTo_378 ?_
  obtain ⟨h379, h⟩ := q_chk h
  refine g_iast B d_X10_tripTo_379 (by decide) (fun _ _ => rfl) h379 ?_
  refine g_aload_n B d_X10_tripTo_380 rfl rfl ?_
  refine g_get (ci := 10) (k := 15) (v := .ref (Z.1 91)) B d_X10_tripTo_381 q_in10 rfl (by decide) rfl (by decide) w_WaterOthersModel_32 rfl rfl ?_
  refine g_iload B d_X10_tripTo_384 rfl ?_
  refine g_iload B d_X10_tripTo_386 rfl ?_
  obtain ⟨h388, h⟩ := q_chk h
  refine g_iast B d_X10_tripTo_388 (by decide) (fun _ _ => rfl) h388 ?_
  refine g_iinc (v := (x6 + 1)) B d_X10_tripTo_389 rfl rfl (by decide) ?_
  refine g_iinc (v := (x12 + 1)) B d_X10_tripTo_392 rfl rfl (by decide) ?_
  refine g_goto (tgt := 222) B d_X10_tripTo_395 (by decide) ?_
  exact g_cut rfl (K222 (x6 + 1) (x12 + 1) (q_w (q_w σ 90 (t1 : Int32).toNatClampNeg (t2 + t3)) 91 (x6 : Int32).toNatClampNeg x14) h)
set_option maxRecDepth 20000 in
theorem t_X10_tripTo_328 {Z : q_Z} {Γ : q_C} {r : Int32} {σ' : q_S} (B : q_B Z Γ prog_12_method_35_code "WaterOthersModel" 16 3) (En : q_E Z Γ (some .int) (some (.int r)) σ') (N : Nat) (k164 : Int32 → Int32 → q_S → Option (Int32 × q_S)) (k222 : Int32 → Int32 → q_S → Option (Int32 × q_S)) (x1 : Int32) (x2 : Int32) (x3 : Int32) (x6 : Int32) (x7 : Int32) (x8 : Int32) (x9 : Int32) (x10 : Int32) (x11 : Int32) (x12 : Int32) (x14 : Int32) (t0 : Int32) (K164 : ∀ (x6 : Int32) (x8 : Int32) (σ : q_S), k164 x6 x8 σ = some (r, σ') → q_G Z Γ 16 σ 164 [(0, .ref (Z.1 84)), (1, .int x1), (2, .int x2), (3, .int x3), (6, .int x6), (7, .int x7), (8, .int x8)] []) (K222 : ∀ (x6 : Int32) (x12 : Int32) (σ : q_S), k222 x6 x12 σ = some (r, σ') → q_G Z Γ 16 σ 222 [(0, .ref (Z.1 84)), (1, .int x1), (2, .int x2), (3, .int x3), (6, .int x6), (7, .int x7), (8, .int x8), (9, .int x9), (10, .int x10), (11, .int x11), (12, .int x12)] []) (σ : q_S)  (h : f_X10_tripTo_328 N k164 k222 x1 x2 x3 x6 x7 x8 x9 x10 x11 x12 x14 t0 σ = some (r, σ')) : q_G Z Γ 16 σ 328 [(0, .ref (Z.1 84)), (1, .int x1), (2, .int x2), (3, .int x3), (6, .int x6), (7, .int x7), (8, .int x8), (9, .int x9), (10, .int x10), (11, .int x11), (12, .int x12), (14, .int x14)] [.int t0] := by
  unfold f_X10_tripTo_328 at h
  refine g_istore B d_X10_tripTo_328 (by decide) ?_
  refine g_iload B d_X10_tripTo_330 rfl ?_
  refine g_if_eq (tgt := 392) B d_X10_tripTo_332 (by decide) h (fun h => ?_) (fun h => ?_)
  · refine g_iinc (v := (x12 + 1)) B d_X10_tripTo_392 rfl rfl (by decide) ?_
    refine g_goto (tgt := 222) B d_X10_tripTo_395 (by decide) ?_
    exact g_cut rfl (K222 x6 (x12 + 1) σ h)
  · refine g_aload_n B d_X10_tripTo_335 rfl rfl ?_
    refine g_get (ci := 10) (k := 14) (v := .ref (Z.1 90)) B d_X10_tripTo_336 q_in10 rfl (by decide) rfl (by decide) w_WaterOthersModel_29 rfl rfl ?_
    refine g_iload B d_X10_tripTo_339 rfl ?_
    obtain ⟨h341, h⟩ := q_chk h
    refine g_iald B d_X10_tripTo_341 (by decide) (fun _ _ => rfl) h341 ?_
    refine g_if_ge (tgt := 392) B d_X10_tripTo_342 (by decide) h (fun h => ?_) (fun h => ?_)
    · refine g_iinc (v := (x12 + 1)) B d_X10_tripTo_392 rfl rfl (by decide) ?_
      refine g_goto (tgt := 222) B d_X10_tripTo_395 (by decide) ?_
      exact g_cut rfl (K222 x6 (x12 + 1) σ h)
    · refine g_aload_n B d_X10_tripTo_345 rfl rfl ?_
      refine g_get (ci := 10) (k := 14) (v := .ref (Z.1 90)) B d_X10_tripTo_346 q_in10 rfl (by decide) rfl (by decide) w_WaterOthersModel_29 rfl rfl ?_
      refine g_iload B d_X10_tripTo_349 rfl ?_
      refine g_bipush (v := 10) B d_X10_tripTo_351 (by decide) ?_
      refine g_iload B d_X10_tripTo_353 rfl ?_
      refine g_iconst (v := 1) B d_X10_tripTo_355 (by decide) ?_
      refine g_iadd B d_X10_tripTo_356 ?_
      refine g_imul B d_X10_tripTo_357 ?_
      refine g_iload B d_X10_tripTo_358 rfl ?_
      refine g_if_ne (tgt := 368) B d_X10_tripTo_360 (by decide) h (fun h => ?_) (fun h => ?_)
      · refine g_aload_n B d_X10_tripTo_368 rfl rfl ?_
        refine g_get (ci := 10) (k := 14) (v := .ref (Z.1 90)) B d_X10_tripTo_369 q_in10 rfl (by decide) rfl (by decide) w_WaterOthersModel_29 rfl rfl ?_
        refine g_iload B d_X10_tripTo_372 rfl ?_
        obtain ⟨h374, h⟩ := q_chk h
        refine g_iald B d_X10_tripTo_374 (by decide) (fun _ _ => rfl) h374 ?_
        refine g_bipush (v := 10) B d_X10_tripTo_375 (by decide) ?_
        refine g_irem B d_X10_tripTo_377 (by decide) ?_
        exact g_cut rfl (t_X10_tripTo_378 B En N (k164) (k222) x1 x2 x3 x6 x7 x8 x9 x10 x11 x12 x14 x14 (10 * (x11 + 1)) (q_rem (σ.1 90 (x9 : Int32).toNatClampNeg) 10) (K164) (K222) σ h)
      · refine g_iload B d_X10_tripTo_363 rfl ?_
        refine g_goto (tgt := 378) B d_X10_tripTo_365 (by decide) ?_
        exact g_cut rfl (t_X10_tripTo_378 B En N (k164) (k222) x1 x2 x3 x6 x7 x8 x9 x10 x11 x12 x14 x14 (10 * (x11 + 1)) x12 (K164) (K222) σ h)
set_option maxRecDepth 20000 in
theorem t_X10_tripTo_251 {Z : q_Z} {Γ : q_C} {r : Int32} {σ' : q_S} (B : q_B Z Γ prog_12_method_35_code "WaterOthersModel" 16 3) (En : q_E Z Γ (some .int) (some (.int r)) σ') (N : Nat) (k164 : Int32 → Int32 → q_S → Option (Int32 × q_S)) (k222 : Int32 → Int32 → q_S → Option (Int32 × q_S)) (x1 : Int32) (x2 : Int32) (x3 : Int32) (x6 : Int32) (x7 : Int32) (x8 : Int32) (x9 : Int32) (x10 : Int32) (x11 : Int32) (x12 : Int32) (t0 : Int32) (t1 : Int32) (K164 : ∀ (x6 : Int32) (x8 : Int32) (σ : q_S), k164 x6 x8 σ = some (r, σ') → q_G Z Γ 16 σ 164 [(0, .ref (Z.1 84)), (1, .int x1), (2, .int x2), (3, .int x3), (6, .int x6), (7, .int x7), (8, .int x8)] []) (K222 : ∀ (x6 : Int32) (x12 : Int32) (σ : q_S), k222 x6 x12 σ = some (r, σ') → q_G Z Γ 16 σ 222 [(0, .ref (Z.1 84)), (1, .int x1), (2, .int x2), (3, .int x3), (6, .int x6), (7, .int x7), (8, .int x8), (9, .int x9), (10, .int x10), (11, .int x11), (12, .int x12)] []) (σ : q_S)  (h : f_X10_tripTo_251 N k164 k222 x1 x2 x3 x6 x7 x8 x9 x10 x11 x12 t0 t1 σ = some (r, σ')) : q_G Z Γ 16 σ 251 [(0, .ref (Z.1 84)), (1, .int x1), (2, .int x2), (3, .int x3), (6, .int x6), (7, .int x7), (8, .int x8), (9, .int x9), (10, .int x10), (11, .int x11), (12, .int x12)] [.int t1, .int t0] := by
  unfold f_X10_tripTo_251 at h
  refine g_iadd B d_X10_tripTo_251 ?_
  refine g_istore B d_X10_tripTo_252 (by decide) ?_
  refine g_sipush (v := 243) B d_X10_tripTo_254 (by decide) ?_
  refine g_iload B d_X10_tripTo_257 rfl ?_
  refine g_imul B d_X10_tripTo_259 ?_
  refine g_iload B d_X10_tripTo_260 rfl ?_
  refine g_bipush (v := 81) B d_X10_tripTo_262 (by decide) ?_
  refine g_irem B d_X10_tripTo_264 (by decide) ?_
  refine g_iconst (v := 3) B d_X10_tripTo_265 (by decide) ?_
  refine g_imul B d_X10_tripTo_266 ?_
  refine g_iadd B d_X10_tripTo_267 ?_
  refine g_iload B d_X10_tripTo_268 rfl ?_
  refine g_iadd B d_X10_tripTo_270 ?_
  refine g_istore B d_X10_tripTo_271 (by decide) ?_
  refine g_iload B d_X10_tripTo_273 rfl ?_
  refine g_callS (As := [.int (t0 + t1)]) (rest := []) B d_X10_tripTo_275 (t_X10_isCell (t0 + t1) σ rfl) m_X10_isCell w_WaterOthersModel_66 rfl rfl (Nat.le_of_ble_eq_true rfl) (by omega) (by decide) ?_
  refine g_istore B d_X10_tripTo_278 (by decide) ?_
  refine g_iload B d_X10_tripTo_280 rfl ?_
  refine g_if_eq (tgt := 327) B d_X10_tripTo_282 (by decide) h (fun h => ?_) (fun h => ?_)
  · refine g_iconst (v := 0) B d_X10_tripTo_327 (by decide) ?_
    exact g_cut rfl (t_X10_tripTo_328 B En N (k164) (k222) x1 x2 x3 x6 x7 x8 x9 x10 x11 x12 (((243 * (t0 + t1)) + ((q_rem x9 81) * 3)) + x12) 0 (K164) (K222) σ h)
  · refine g_iload B d_X10_tripTo_285 rfl ?_
    refine g_if_eq (tgt := 323) B d_X10_tripTo_287 (by decide) h (fun h => ?_) (fun h => ?_)
    · refine g_iconst (v := 1) B d_X10_tripTo_323 (by decide) ?_
      refine g_goto (tgt := 328) B d_X10_tripTo_324 (by decide) ?_
      exact g_cut rfl (t_X10_tripTo_328 B En N (k164) (k222) x1 x2 x3 x6 x7 x8 x9 x10 x11 x12 (((243 * (t0 + t1)) + ((q_rem x9 81) * 3)) + x12) 1 (K164) (K222) σ h)
    · refine g_iload_n B d_X10_tripTo_290 rfl rfl ?_
      refine g_if_eq (tgt := 323) B d_X10_tripTo_291 (by decide) h (fun h => ?_) (fun h => ?_)
      · refine g_iconst (v := 1) B d_X10_tripTo_323 (by decide) ?_
        refine g_goto (tgt := 328) B d_X10_tripTo_324 (by decide) ?_
        exact g_cut rfl (t_X10_tripTo_328 B En N (k164) (k222) x1 x2 x3 x6 x7 x8 x9 x10 x11 x12 (((243 * (t0 + t1)) + ((q_rem x9 81) * 3)) + x12) 1 (K164) (K222) σ h)
      · refine g_iload B d_X10_tripTo_294 rfl ?_
        refine g_iload B d_X10_tripTo_296 rfl ?_
        refine g_aload_n B d_X10_tripTo_298 rfl rfl ?_
        refine g_get (ci := 10) (k := 3) (v := .ref (Z.1 87)) B d_X10_tripTo_299 q_in10 rfl (by decide) rfl (by decide) w_WaterOthersModel_16 rfl rfl ?_
        refine g_iload_n B d_X10_tripTo_302 rfl rfl ?_
        obtain ⟨h303, h⟩ := q_chk h
        refine g_iald B d_X10_tripTo_303 (by decide) (fun _ _ => rfl) h303 ?_
        obtain ⟨z304, g304, h⟩ := q_bind h
        refine g_callS (As := [.int (((243 * (t0 + t1)) + ((q_rem x9 81) * 3)) + x12), .int (σ.1 87 (x1 : Int32).toNatClampNeg)]) (rest := [.int (t0 + t1)]) B d_X10_tripTo_304 (t_X10_backBy N (((243 * (t0 + t1)) + ((q_rem x9 81) * 3)) + x12) (σ.1 87 (x1 : Int32).toNatClampNeg) σ g304) m_X10_backBy w_WaterOthersModel_144 rfl rfl (Nat.le_of_ble_eq_true rfl) (by omega) (by decide) ?_
        refine g_isub B d_X10_tripTo_307 ?_
        refine g_aload_n B d_X10_tripTo_308 rfl rfl ?_
        refine g_get (ci := 10) (k := 5) B d_X10_tripTo_309 q_in10 rfl (by decide) rfl (by decide) w_WaterOthersModel_19 rfl rfl ?_
        refine g_ineg B d_X10_tripTo_312 ?_
        refine g_aload_n B d_X10_tripTo_313 rfl rfl ?_
        refine g_get (ci := 10) (k := 5) B d_X10_tripTo_314 q_in10 rfl (by decide) rfl (by decide) w_WaterOthersModel_19 rfl rfl ?_
        refine g_callS (As := [.int ((t0 + t1) - z304), .int (-(σ.1 84 5)), .int (σ.1 84 5)]) (rest := []) B d_X10_tripTo_317 (t_X10_in ((t0 + t1) - z304) (-(σ.1 84 5)) (σ.1 84 5) σ rfl) m_X10_in w_WaterOthersModel_55 rfl rfl (Nat.le_of_ble_eq_true rfl) (by omega) (by decide) ?_
        refine g_if_eq (tgt := 327) B d_X10_tripTo_320 (by decide) h (fun h => ?_) (fun h => ?_)
        · refine g_iconst (v := 0) B d_X10_tripTo_327 (by decide) ?_
          exact g_cut rfl (t_X10_tripTo_328 B En N (k164) (k222) x1 x2 x3 x6 x7 x8 x9 x10 x11 x12 (((243 * (t0 + t1)) + ((q_rem x9 81) * 3)) + x12) 0 (K164) (K222) σ h)
        · refine g_iconst (v := 1) B d_X10_tripTo_323 (by decide) ?_
          refine g_goto (tgt := 328) B d_X10_tripTo_324 (by decide) ?_
          exact g_cut rfl (t_X10_tripTo_328 B En N (k164) (k222) x1 x2 x3 x6 x7 x8 x9 x10 x11 x12 (((243 * (t0 + t1)) + ((q_rem x9 81) * 3)) + x12) 1 (K164) (K222) σ h)
set_option maxRecDepth 20000 in
theorem t_X10_tripTo_222 {Z : q_Z} {Γ : q_C} {r : Int32} {σ' : q_S} (B : q_B Z Γ prog_12_method_35_code "WaterOthersModel" 16 3) (En : q_E Z Γ (some .int) (some (.int r)) σ') (N : Nat) (k164 : Int32 → Int32 → q_S → Option (Int32 × q_S)) (x1 : Int32) (x2 : Int32) (x3 : Int32) (x7 : Int32) (x8 : Int32) (x9 : Int32) (x10 : Int32) (x11 : Int32) (K164 : ∀ (x6 : Int32) (x8 : Int32) (σ : q_S), k164 x6 x8 σ = some (r, σ') → q_G Z Γ 16 σ 164 [(0, .ref (Z.1 84)), (1, .int x1), (2, .int x2), (3, .int x3), (6, .int x6), (7, .int x7), (8, .int x8)] [])  : ∀ (n : Nat) (x6 : Int32) (x12 : Int32) (σ : q_S), f_X10_tripTo_222 N k164 x1 x2 x3 x7 x8 x9 x10 x11 n x6 x12 σ = some (r, σ') → q_G Z Γ 16 σ 222 [(0, .ref (Z.1 84)), (1, .int x1), (2, .int x2), (3, .int x3), (6, .int x6), (7, .int x7), (8, .int x8), (9, .int x9), (10, .int x10), (11, .int x11), (12, .int x12)] [] := by
  intro n
  induction n with
  | zero =>
    intro x6 x12 σ h
    cases h
  | succ n ih =>
    intro x6 x12 σ h
    unfold f_X10_tripTo_222 at h
    refine g_iload B d_X10_tripTo_222 rfl ?_
    refine g_iconst (v := 3) B d_X10_tripTo_224 (by decide) ?_
    refine g_icmp_ge (tgt := 398) B d_X10_tripTo_225 (by decide) h (fun h => ?_) (fun h => ?_)
    · refine g_iinc (v := (x8 + 1)) B d_X10_tripTo_398 rfl rfl (by decide) ?_
      refine g_goto (tgt := 164) B d_X10_tripTo_401 (by decide) ?_
      exact g_cut rfl (K164 x6 (x8 + 1) σ h)
    · refine g_iload B d_X10_tripTo_228 rfl ?_
      refine g_iload B d_X10_tripTo_230 rfl ?_
      refine g_iconst (v := 1) B d_X10_tripTo_232 (by decide) ?_
      refine g_icmp_ne (tgt := 240) B d_X10_tripTo_233 (by decide) h (fun h => ?_) (fun h => ?_)
      · refine g_iload B d_X10_tripTo_240 rfl ?_
        refine g_iconst (v := 2) B d_X10_tripTo_242 (by decide) ?_
        refine g_icmp_ne (tgt := 250) B d_X10_tripTo_243 (by decide) h (fun h => ?_) (fun h => ?_)
        · refine g_iconst (v := 0) B d_X10_tripTo_250 (by decide) ?_
          exact g_cut rfl (t_X10_tripTo_251 B En N (k164) (fun x6 x12 σ => f_X10_tripTo_222 N k164 x1 x2 x3 x7 x8 x9 x10 x11 n x6 x12 σ) x1 x2 x3 x6 x7 x8 x9 x10 x11 x12 x10 0 (K164) (ih) σ h)
        · refine g_iconst (v := 1) B d_X10_tripTo_246 (by decide) ?_
          refine g_goto (tgt := 251) B d_X10_tripTo_247 (by decide) ?_
          exact g_cut rfl (t_X10_tripTo_251 B En N (k164) (fun x6 x12 σ => f_X10_tripTo_222 N k164 x1 x2 x3 x7 x8 x9 x10 x11 n x6 x12 σ) x1 x2 x3 x6 x7 x8 x9 x10 x11 x12 x10 1 (K164) (ih) σ h)
      · refine g_iconst (v := (-1)) B d_X10_tripTo_236 (by decide) ?_
        refine g_goto (tgt := 251) B d_X10_tripTo_237 (by decide) ?_
        exact g_cut rfl (t_X10_tripTo_251 B En N (k164) (fun x6 x12 σ => f_X10_tripTo_222 N k164 x1 x2 x3 x7 x8 x9 x10 x11 n x6 x12 σ) x1 x2 x3 x6 x7 x8 x9 x10 x11 x12 x10 (-1) (K164) (ih) σ h)
set_option maxRecDepth 20000 in
theorem t_X10_tripTo_164 {Z : q_Z} {Γ : q_C} {r : Int32} {σ' : q_S} (B : q_B Z Γ prog_12_method_35_code "WaterOthersModel" 16 3) (En : q_E Z Γ (some .int) (some (.int r)) σ') (N : Nat)  (x1 : Int32) (x2 : Int32) (x3 : Int32) (x7 : Int32)   : ∀ (n : Nat) (x6 : Int32) (x8 : Int32) (σ : q_S), f_X10_tripTo_164 N x1 x2 x3 x7 n x6 x8 σ = some (r, σ') → q_G Z Γ 16 σ 164 [(0, .ref (Z.1 84)), (1, .int x1), (2, .int x2), (3, .int x3), (6, .int x6), (7, .int x7), (8, .int x8)] [] := by
  intro n
  induction n with
  | zero =>
    intro x6 x8 σ h
    cases h
  | succ n ih =>
    intro x6 x8 σ h
    unfold f_X10_tripTo_164 at h
    refine g_iload B d_X10_tripTo_164 rfl ?_
    refine g_iload B d_X10_tripTo_166 rfl ?_
    refine g_icmp_ge (tgt := 404) B d_X10_tripTo_168 (by decide) h (fun h => ?_) (fun h => ?_)
    · refine g_iload B d_X10_tripTo_404 rfl ?_
      obtain ⟨rfl, rfl⟩ := q_ps h
      exact g_iret B En d_X10_tripTo_406
    · refine g_aload_n B d_X10_tripTo_171 rfl rfl ?_
      refine g_get (ci := 10) (k := 15) (v := .ref (Z.1 91)) B d_X10_tripTo_172 q_in10 rfl (by decide) rfl (by decide) w_WaterOthersModel_32 rfl rfl ?_
      refine g_iload B d_X10_tripTo_175 rfl ?_
      obtain ⟨h177, h⟩ := q_chk h
      refine g_iald B d_X10_tripTo_177 (by decide) (fun _ _ => rfl) h177 ?_
      refine g_istore B d_X10_tripTo_178 (by decide) ?_
      refine g_iload B d_X10_tripTo_180 rfl ?_
      refine g_sipush (v := 243) B d_X10_tripTo_182 (by decide) ?_
      refine g_idiv B d_X10_tripTo_185 (by decide) ?_
      refine g_istore B d_X10_tripTo_186 (by decide) ?_
      refine g_aload_n B d_X10_tripTo_188 rfl rfl ?_
      refine g_get (ci := 10) (k := 14) (v := .ref (Z.1 90)) B d_X10_tripTo_189 q_in10 rfl (by decide) rfl (by decide) w_WaterOthersModel_29 rfl rfl ?_
      refine g_iload B d_X10_tripTo_192 rfl ?_
      obtain ⟨h194, h⟩ := q_chk h
      refine g_iald B d_X10_tripTo_194 (by decide) (fun _ _ => rfl) h194 ?_
      refine g_bipush (v := 10) B d_X10_tripTo_195 (by decide) ?_
      refine g_idiv B d_X10_tripTo_197 (by decide) ?_
      refine g_istore B d_X10_tripTo_198 (by decide) ?_
      refine g_iload B d_X10_tripTo_200 rfl ?_
      refine g_iload_n B d_X10_tripTo_202 rfl rfl ?_
      refine g_icmp_ne (tgt := 219) B d_X10_tripTo_203 (by decide) h (fun h => ?_) (fun h => ?_)
      · refine g_iconst (v := 0) B d_X10_tripTo_219 (by decide) ?_
        refine g_istore B d_X10_tripTo_220 (by decide) ?_
        exact g_cut rfl (t_X10_tripTo_222 B En N (fun x6 x8 σ => f_X10_tripTo_164 N x1 x2 x3 x7 n x6 x8 σ) x1 x2 x3 x7 x8 (σ.1 91 (x8 : Int32).toNatClampNeg) ((σ.1 91 (x8 : Int32).toNatClampNeg) / 243) ((σ.1 90 ((σ.1 91 (x8 : Int32).toNatClampNeg) : Int32).toNatClampNeg) / 10) (ih) N x6 0 σ h)
      · refine g_iload B d_X10_tripTo_206 rfl ?_
        refine g_if_ge (tgt := 219) B d_X10_tripTo_208 (by decide) h (fun h => ?_) (fun h => ?_)
        · refine g_iconst (v := 0) B d_X10_tripTo_219 (by decide) ?_
          refine g_istore B d_X10_tripTo_220 (by decide) ?_
          exact g_cut rfl (t_X10_tripTo_222 B En N (fun x6 x8 σ => f_X10_tripTo_164 N x1 x2 x3 x7 n x6 x8 σ) x1 x2 x3 x7 x8 (σ.1 91 (x8 : Int32).toNatClampNeg) ((σ.1 91 (x8 : Int32).toNatClampNeg) / 243) ((σ.1 90 ((σ.1 91 (x8 : Int32).toNatClampNeg) : Int32).toNatClampNeg) / 10) (ih) N x6 0 σ h)
        · refine g_aload_n B d_X10_tripTo_211 rfl rfl ?_
          refine g_get (ci := 10) (k := 14) (v := .ref (Z.1 90)) B d_X10_tripTo_212 q_in10 rfl (by decide) rfl (by decide) w_WaterOthersModel_29 rfl rfl ?_
          refine g_iload B d_X10_tripTo_215 rfl ?_
          refine g_iald B d_X10_tripTo_217 (by decide) (fun _ _ => rfl) h194 ?_
          obtain ⟨rfl, rfl⟩ := q_ps h
          exact g_iret B En d_X10_tripTo_218
set_option maxRecDepth 20000 in
theorem t_X10_tripTo_55 {Z : q_Z} {Γ : q_C} {r : Int32} {σ' : q_S} (B : q_B Z Γ prog_12_method_35_code "WaterOthersModel" 16 3) (En : q_E Z Γ (some .int) (some (.int r)) σ') (N : Nat)  (x1 : Int32) (x2 : Int32) (x3 : Int32)   : ∀ (n : Nat) (x4 : Int32) (x5 : Int32) (σ : q_S), f_X10_tripTo_55 N x1 x2 x3 n x4 x5 σ = some (r, σ') → q_G Z Γ 16 σ 55 [(0, .ref (Z.1 84)), (1, .int x1), (2, .int x2), (3, .int x3), (4, .int x4), (5, .int x5)] [] := by
  intro n
  induction n with
  | zero =>
    intro x4 x5 σ h
    cases h
  | succ n ih =>
    intro x4 x5 σ h
    unfold f_X10_tripTo_55 at h
    refine g_iload B d_X10_tripTo_55 rfl ?_
    refine g_if_lt (tgt := 121) B d_X10_tripTo_57 (by decide) h (fun h => ?_) (fun h => ?_)
    · refine g_sipush (v := 243) B d_X10_tripTo_121 (by decide) ?_
      refine g_aload_n B d_X10_tripTo_124 rfl rfl ?_
      refine g_get (ci := 10) (k := 1) (v := .ref (Z.1 86)) B d_X10_tripTo_125 q_in10 rfl (by decide) rfl (by decide) w_WaterOthersModel_13 rfl rfl ?_
      refine g_bipush (v := 6) B d_X10_tripTo_128 (by decide) ?_
      refine g_iload_n B d_X10_tripTo_130 rfl rfl ?_
      refine g_imul B d_X10_tripTo_131 ?_
      obtain ⟨h132, h⟩ := q_chk h
      refine g_iald B d_X10_tripTo_132 (by decide) (fun _ _ => rfl) h132 ?_
      refine g_imul B d_X10_tripTo_133 ?_
      refine g_iload B d_X10_tripTo_134 rfl ?_
      refine g_iadd B d_X10_tripTo_136 ?_
      refine g_istore B d_X10_tripTo_137 (by decide) ?_
      refine g_aload_n B d_X10_tripTo_139 rfl rfl ?_
      refine g_get (ci := 10) (k := 14) (v := .ref (Z.1 90)) B d_X10_tripTo_140 q_in10 rfl (by decide) rfl (by decide) w_WaterOthersModel_29 rfl rfl ?_
      refine g_iload B d_X10_tripTo_143 rfl ?_
      refine g_iconst (v := 0) B d_X10_tripTo_145 (by decide) ?_
      obtain ⟨h146, h⟩ := q_chk h
      refine g_iast B d_X10_tripTo_146 (by decide) (fun _ _ => rfl) h146 ?_
      refine g_aload_n B d_X10_tripTo_147 rfl rfl ?_
      refine g_get (ci := 10) (k := 15) (v := .ref (Z.1 91)) B d_X10_tripTo_148 q_in10 rfl (by decide) rfl (by decide) w_WaterOthersModel_32 rfl rfl ?_
      refine g_iconst (v := 0) B d_X10_tripTo_151 (by decide) ?_
      refine g_iload B d_X10_tripTo_152 rfl ?_
      refine g_iast B d_X10_tripTo_154 (by decide) (fun _ _ => rfl) (by decide) ?_
      refine g_iconst (v := 1) B d_X10_tripTo_155 (by decide) ?_
      refine g_istore B d_X10_tripTo_156 (by decide) ?_
      refine g_iconst (v := (-1)) B d_X10_tripTo_158 (by decide) ?_
      refine g_istore B d_X10_tripTo_159 (by decide) ?_
      refine g_iconst (v := 0) B d_X10_tripTo_161 (by decide) ?_
      refine g_istore B d_X10_tripTo_162 (by decide) ?_
      exact g_cut rfl (t_X10_tripTo_164 B En N x1 x2 x3 (-1) N 1 0 (q_w (q_w σ 90 (((243 * (σ.1 86 ((6 * x1) : Int32).toNatClampNeg)) + x4) : Int32).toNatClampNeg 0) 91 (0 : Int32).toNatClampNeg ((243 * (σ.1 86 ((6 * x1) : Int32).toNatClampNeg)) + x4)) h)
    · refine g_aload_n B d_X10_tripTo_60 rfl rfl ?_
      refine g_get (ci := 10) (k := 1) (v := .ref (Z.1 86)) B d_X10_tripTo_61 q_in10 rfl (by decide) rfl (by decide) w_WaterOthersModel_13 rfl rfl ?_
      refine g_bipush (v := 6) B d_X10_tripTo_64 (by decide) ?_
      refine g_iload_n B d_X10_tripTo_66 rfl rfl ?_
      refine g_imul B d_X10_tripTo_67 ?_
      refine g_iload B d_X10_tripTo_68 rfl ?_
      refine g_iadd B d_X10_tripTo_70 ?_
      obtain ⟨h71, h⟩ := q_chk h
      refine g_iald B d_X10_tripTo_71 (by decide) (fun _ _ => rfl) h71 ?_
      refine g_aload_n B d_X10_tripTo_72 rfl rfl ?_
      refine g_get (ci := 10) (k := 1) (v := .ref (Z.1 86)) B d_X10_tripTo_73 q_in10 rfl (by decide) rfl (by decide) w_WaterOthersModel_13 rfl rfl ?_
      refine g_bipush (v := 6) B d_X10_tripTo_76 (by decide) ?_
      refine g_iload_n B d_X10_tripTo_78 rfl rfl ?_
      refine g_imul B d_X10_tripTo_79 ?_
      refine g_iload B d_X10_tripTo_80 rfl ?_
      refine g_iadd B d_X10_tripTo_82 ?_
      refine g_iconst (v := 1) B d_X10_tripTo_83 (by decide) ?_
      refine g_iadd B d_X10_tripTo_84 ?_
      obtain ⟨h85, h⟩ := q_chk h
      refine g_iald B d_X10_tripTo_85 (by decide) (fun _ _ => rfl) h85 ?_
      refine g_isub B d_X10_tripTo_86 ?_
      refine g_istore B d_X10_tripTo_87 (by decide) ?_
      exact g_cut rfl (t_X10_tripTo_89 B En N (fun x4 x5 σ => f_X10_tripTo_55 N x1 x2 x3 n x4 x5 σ) x1 x2 x3 x4 x5 ((σ.1 86 (((6 * x1) + x5) : Int32).toNatClampNeg) - (σ.1 86 ((((6 * x1) + x5) + 1) : Int32).toNatClampNeg)) (ih) σ h)
set_option maxRecDepth 20000 in
theorem t_X10_tripTo_27 {Z : q_Z} {Γ : q_C} {r : Int32} {σ' : q_S} (B : q_B Z Γ prog_12_method_35_code "WaterOthersModel" 16 3) (En : q_E Z Γ (some .int) (some (.int r)) σ') (N : Nat)  (x1 : Int32) (x2 : Int32) (x3 : Int32)   : ∀ (n : Nat) (x4 : Int32) (σ : q_S), f_X10_tripTo_27 N x1 x2 x3 n x4 σ = some (r, σ') → q_G Z Γ 16 σ 27 [(0, .ref (Z.1 84)), (1, .int x1), (2, .int x2), (3, .int x3), (4, .int x4)] [] := by
  intro n
  induction n with
  | zero =>
    intro x4 σ h
    cases h
  | succ n ih =>
    intro x4 σ h
    unfold f_X10_tripTo_27 at h
    refine g_iload B d_X10_tripTo_27 rfl ?_
    refine g_sipush (v := 4860) B d_X10_tripTo_29 (by decide) ?_
    refine g_icmp_ge (tgt := 49) B d_X10_tripTo_32 (by decide) h (fun h => ?_) (fun h => ?_)
    · refine g_iconst (v := 0) B d_X10_tripTo_49 (by decide) ?_
      refine g_istore B d_X10_tripTo_50 (by decide) ?_
      refine g_iconst (v := 4) B d_X10_tripTo_52 (by decide) ?_
      refine g_istore B d_X10_tripTo_53 (by decide) ?_
      exact g_cut rfl (t_X10_tripTo_55 B En N x1 x2 x3 N 0 4 σ h)
    · refine g_aload_n B d_X10_tripTo_35 rfl rfl ?_
      refine g_get (ci := 10) (k := 14) (v := .ref (Z.1 90)) B d_X10_tripTo_36 q_in10 rfl (by decide) rfl (by decide) w_WaterOthersModel_29 rfl rfl ?_
      refine g_iload B d_X10_tripTo_39 rfl ?_
      refine g_iconst (v := (-1)) B d_X10_tripTo_41 (by decide) ?_
      obtain ⟨h42, h⟩ := q_chk h
      refine g_iast B d_X10_tripTo_42 (by decide) (fun _ _ => rfl) h42 ?_
      refine g_iinc (v := (x4 + 1)) B d_X10_tripTo_43 rfl rfl (by decide) ?_
      refine g_goto (tgt := 27) B d_X10_tripTo_46 (by decide) ?_
      exact g_cut rfl (ih (x4 + 1) (q_w σ 90 (x4 : Int32).toNatClampNeg (-1)) h)
set_option maxRecDepth 20000 in
theorem t_X10_tripTo {Z : q_Z} {l : Launch} (N : Nat) (a0 : Int32) (a1 : Int32)  (σ : q_S) {r : Int32} {σ' : q_S} (h : f_X10_tripTo N a0 a1 σ = some (r, σ')) : q_M Z l y_X10_tripTo prog_12_method_35_code 16 (some .int) 3 [.ref (Z.1 84), .int a0, .int a1] σ (some (.int r)) σ' := by
  refine q_met (by decide +kernel) (Nat.le_of_ble_eq_true rfl) (fun Γ hΓ B En => ?_)
  unfold f_X10_tripTo at h
  refine g_cut (lv' := [(0, .ref (Z.1 84)), (1, .int a0), (2, .int a1)]) rfl ?_
  refine g_aload_n B d_X10_tripTo_0 rfl rfl ?_
  refine g_iload_n B d_X10_tripTo_1 rfl rfl ?_
  obtain ⟨z2, g2, h⟩ := q_bind h
  refine g_callV (p0 := 84) (ci := 10) (As := [.int a0]) (rest := []) B d_X10_tripTo_2 (t_X10_hasParted a0 σ g2) m_X10_hasParted w_WaterOthersModel_93 (by decide) rfl rfl rfl rfl (Nat.le_of_ble_eq_true rfl) (by omega) (by decide) ?_
  refine g_if_ne (tgt := 22) B d_X10_tripTo_5 (by decide) h (fun h => ?_) (fun h => ?_)
  · refine g_iconst (v := 0) B d_X10_tripTo_22 (by decide) ?_
    refine g_istore_n B d_X10_tripTo_23 rfl (by decide) ?_
    refine g_iconst (v := 0) B d_X10_tripTo_24 (by decide) ?_
    refine g_istore B d_X10_tripTo_25 (by decide) ?_
    exact g_cut rfl (t_X10_tripTo_27 B En N a0 a1 0 N 0 σ h)
  · refine g_aload_n B d_X10_tripTo_8 rfl rfl ?_
    refine g_get (ci := 10) (k := 1) (v := .ref (Z.1 86)) B d_X10_tripTo_9 q_in10 rfl (by decide) rfl (by decide) w_WaterOthersModel_13 rfl rfl ?_
    refine g_bipush (v := 48) B d_X10_tripTo_12 (by decide) ?_
    refine g_iald B d_X10_tripTo_14 (by decide) (fun _ _ => rfl) (by decide) ?_
    refine g_if_ne (tgt := 22) B d_X10_tripTo_15 (by decide) h (fun h => ?_) (fun h => ?_)
    · refine g_iconst (v := 0) B d_X10_tripTo_22 (by decide) ?_
      refine g_istore_n B d_X10_tripTo_23 rfl (by decide) ?_
      refine g_iconst (v := 0) B d_X10_tripTo_24 (by decide) ?_
      refine g_istore B d_X10_tripTo_25 (by decide) ?_
      exact g_cut rfl (t_X10_tripTo_27 B En N a0 a1 0 N 0 σ h)
    · refine g_iconst (v := 1) B d_X10_tripTo_18 (by decide) ?_
      refine g_goto (tgt := 23) B d_X10_tripTo_19 (by decide) ?_
      refine g_istore_n B d_X10_tripTo_23 rfl (by decide) ?_
      refine g_iconst (v := 0) B d_X10_tripTo_24 (by decide) ?_
      refine g_istore B d_X10_tripTo_25 (by decide) ?_
      exact g_cut rfl (t_X10_tripTo_27 B En N a0 a1 1 N 0 σ h)

theorem w_WaterOthersModel_147 : Cond.methodLink "WaterOthersModel" 147 y_X10_tripTo ∈ q_tbl := q_mem 880 (by decide +kernel) (by decide +kernel)
def f_X10_trip (N : Nat) (a0 : Int32) (a1 : Int32) (a2 : Int32) (σ : q_S) : Option (Int32 × q_S) :=
  if (f_X10_isThere a0 σ) = 0 then (some ((-1), σ))
  else (if (f_X10_isCell a1) = 0 then (some ((-1), σ))
    else (if (f_X10_in a2 0 1) = 0 then (some ((-2), σ))
      else ((f_X10_asNow N σ).bind fun z30 =>
        if ¬ (((6 * a0) : Int32) < 0 ∨ 50 ≤ ((6 * a0) : Int32).toNatClampNeg) then if (z30.1 86 ((6 * a0) : Int32).toNatClampNeg) = a1 then (if a2 = 0 then (some (0, z30))
          else (some ((-6), z30)))
        else ((f_X10_tripTo N a0 a1 z30).bind fun z60 =>
          if (0 : Int32) ≤ z60.1 then (if a2 = 0 then (some ((z60.1 / 10), z60.2))
            else (some ((q_rem z60.1 10), z60.2)))
          else (some ((-6), z60.2))) else none)))
set_option maxRecDepth 20000 in
theorem t_X10_trip {Z : q_Z} {l : Launch} (N : Nat) (a0 : Int32) (a1 : Int32) (a2 : Int32)  (σ : q_S) {r : Int32} {σ' : q_S} (h : f_X10_trip N a0 a1 a2 σ = some (r, σ')) : q_M Z l y_X10_trip prog_12_method_36_code 5 (some .int) 4 [.ref (Z.1 84), .int a0, .int a1, .int a2] σ (some (.int r)) σ' := by
  refine q_met (by decide +kernel) (Nat.le_of_ble_eq_true rfl) (fun Γ hΓ B En => ?_)
  unfold f_X10_trip at h
  refine g_cut (lv' := [(0, .ref (Z.1 84)), (1, .int a0), (2, .int a1), (3, .int a2)]) rfl ?_
  refine g_aload_n B d_X10_trip_0 rfl rfl ?_
  refine g_iload_n B d_X10_trip_1 rfl rfl ?_
  refine g_callV (p0 := 84) (ci := 10) (As := [.int a0]) (rest := []) B d_X10_trip_2 (t_X10_isThere a0 σ rfl) m_X10_isThere w_WaterOthersModel_77 (by decide) rfl rfl rfl rfl (Nat.le_of_ble_eq_true rfl) (by omega) (by decide) ?_
  refine g_if_eq (tgt := 15) B d_X10_trip_5 (by decide) h (fun h => ?_) (fun h => ?_)
  · refine g_iconst (v := (-1)) B d_X10_trip_15 (by decide) ?_
    obtain ⟨rfl, rfl⟩ := q_ps h
    exact g_iret B En d_X10_trip_16
  · refine g_iload_n B d_X10_trip_8 rfl rfl ?_
    refine g_callS (As := [.int a1]) (rest := []) B d_X10_trip_9 (t_X10_isCell a1 σ rfl) m_X10_isCell w_WaterOthersModel_66 rfl rfl (Nat.le_of_ble_eq_true rfl) (by omega) (by decide) ?_
    refine g_if_ne (tgt := 17) B d_X10_trip_12 (by decide) h (fun h => ?_) (fun h => ?_)
    · refine g_iload_n B d_X10_trip_17 rfl rfl ?_
      refine g_iconst (v := 0) B d_X10_trip_18 (by decide) ?_
      refine g_iconst (v := 1) B d_X10_trip_19 (by decide) ?_
      refine g_callS (As := [.int a2, .int 0, .int 1]) (rest := []) B d_X10_trip_20 (t_X10_in a2 0 1 σ rfl) m_X10_in w_WaterOthersModel_55 rfl rfl (Nat.le_of_ble_eq_true rfl) (by omega) (by decide) ?_
      refine g_if_ne (tgt := 29) B d_X10_trip_23 (by decide) h (fun h => ?_) (fun h => ?_)
      · refine g_aload_n B d_X10_trip_29 rfl rfl ?_
        obtain ⟨z30, g30, h⟩ := q_bind h
        refine g_callV (p0 := 84) (ci := 10) (As := []) (rest := []) B d_X10_trip_30 (t_X10_asNow N σ g30) m_X10_asNow w_WaterOthersModel_117 (by decide) rfl rfl rfl rfl (Nat.le_of_ble_eq_true rfl) (by omega) (by decide) ?_
        refine g_aload_n B d_X10_trip_33 rfl rfl ?_
        refine g_get (ci := 10) (k := 1) (v := .ref (Z.1 86)) B d_X10_trip_34 q_in10 rfl (by decide) rfl (by decide) w_WaterOthersModel_13 rfl rfl ?_
        refine g_bipush (v := 6) B d_X10_trip_37 (by decide) ?_
        refine g_iload_n B d_X10_trip_39 rfl rfl ?_
        refine g_imul B d_X10_trip_40 ?_
        obtain ⟨h41, h⟩ := q_chk h
        refine g_iald B d_X10_trip_41 (by decide) (fun _ _ => rfl) h41 ?_
        refine g_iload_n B d_X10_trip_42 rfl rfl ?_
        refine g_icmp_ne (tgt := 57) B d_X10_trip_43 (by decide) h (fun h => ?_) (fun h => ?_)
        · refine g_aload_n B d_X10_trip_57 rfl rfl ?_
          refine g_iload_n B d_X10_trip_58 rfl rfl ?_
          refine g_iload_n B d_X10_trip_59 rfl rfl ?_
          obtain ⟨z60, g60, h⟩ := q_bind h
          refine g_callV (p0 := 84) (ci := 10) (As := [.int a0, .int a1]) (rest := []) B d_X10_trip_60 (t_X10_tripTo N a0 a1 z30 g60) m_X10_tripTo w_WaterOthersModel_147 (by decide) rfl rfl rfl rfl (Nat.le_of_ble_eq_true rfl) (by omega) (by decide) ?_
          refine g_istore B d_X10_trip_63 (by decide) ?_
          refine g_iload B d_X10_trip_65 rfl ?_
          refine g_if_ge (tgt := 75) B d_X10_trip_67 (by decide) h (fun h => ?_) (fun h => ?_)
          · refine g_iload_n B d_X10_trip_75 rfl rfl ?_
            refine g_if_ne (tgt := 87) B d_X10_trip_76 (by decide) h (fun h => ?_) (fun h => ?_)
            · refine g_iload B d_X10_trip_87 rfl ?_
              refine g_bipush (v := 10) B d_X10_trip_89 (by decide) ?_
              refine g_irem B d_X10_trip_91 (by decide) ?_
              obtain ⟨rfl, rfl⟩ := q_ps h
              exact g_iret B En d_X10_trip_92
            · refine g_iload B d_X10_trip_79 rfl ?_
              refine g_bipush (v := 10) B d_X10_trip_81 (by decide) ?_
              refine g_idiv B d_X10_trip_83 (by decide) ?_
              refine g_goto (tgt := 92) B d_X10_trip_84 (by decide) ?_
              obtain ⟨rfl, rfl⟩ := q_ps h
              exact g_iret B En d_X10_trip_92
          · refine g_bipush (v := (-6)) B d_X10_trip_70 (by decide) ?_
            refine g_goto (tgt := 92) B d_X10_trip_72 (by decide) ?_
            obtain ⟨rfl, rfl⟩ := q_ps h
            exact g_iret B En d_X10_trip_92
        · refine g_iload_n B d_X10_trip_46 rfl rfl ?_
          refine g_if_ne (tgt := 54) B d_X10_trip_47 (by decide) h (fun h => ?_) (fun h => ?_)
          · refine g_bipush (v := (-6)) B d_X10_trip_54 (by decide) ?_
            obtain ⟨rfl, rfl⟩ := q_ps h
            exact g_iret B En d_X10_trip_56
          · refine g_iconst (v := 0) B d_X10_trip_50 (by decide) ?_
            refine g_goto (tgt := 56) B d_X10_trip_51 (by decide) ?_
            obtain ⟨rfl, rfl⟩ := q_ps h
            exact g_iret B En d_X10_trip_56
      · refine g_bipush (v := (-2)) B d_X10_trip_26 (by decide) ?_
        obtain ⟨rfl, rfl⟩ := q_ps h
        exact g_iret B En d_X10_trip_28
    · refine g_iconst (v := (-1)) B d_X10_trip_15 (by decide) ?_
      obtain ⟨rfl, rfl⟩ := q_ps h
      exact g_iret B En d_X10_trip_16

def f_X10_again_70 (N : Nat)  (x1 : Int32) (x2 : Int32)  : Nat → Int32 → Int32 → Int32 → q_S → Option (Int32 × q_S)
  | 0, _, _, _, _ => none
  | n + 1, x3, x4, x5, σ =>
    if (100 : Int32) ≤ x5 then (some ((-6), σ))
    else (if ¬ (((6 * x1) : Int32) < 0 ∨ 50 ≤ ((6 * x1) : Int32).toNatClampNeg) then if (f_X10_in (x3 - (σ.1 86 ((6 * x1) : Int32).toNatClampNeg)) (-x5) x5) = 0 then (if (f_X10_isCell (x3 + x4)) = 0 then (f_X10_again_70 N x1 x2 n (x3 + (-x4)) (-x4) (x5 + 1) σ)
        else (f_X10_again_70 N x1 x2 n (x3 + x4) x4 (x5 + 1) σ))
      else (if x2 = 0 then (some (x5, σ))
        else (some (x3, σ))) else none)
def f_X10_again (N : Nat) (a0 : Int32) (a1 : Int32) (σ : q_S) : Option (Int32 × q_S) :=
  if (f_X10_isThere a0 σ) = 0 then (some ((-1), σ))
  else (if (f_X10_in a1 0 1) = 0 then (some ((-2), σ))
    else ((f_X10_asNow N σ).bind fun z23 =>
      (f_X10_hasParted a0 z23).bind fun z28 =>
      if z28 = 0 then (some ((-3), z23))
      else (if ¬ (((36 + a0) : Int32) < 0 ∨ 50 ≤ ((36 + a0) : Int32).toNatClampNeg) then if ¬ (((42 + a0) : Int32) < 0 ∨ 50 ≤ ((42 + a0) : Int32).toNatClampNeg) then if (z23.1 86 ((42 + a0) : Int32).toNatClampNeg) = 1 then (f_X10_again_70 N a0 a1 N (z23.1 86 ((36 + a0) : Int32).toNatClampNeg) 1 0 z23)
        else (f_X10_again_70 N a0 a1 N (z23.1 86 ((36 + a0) : Int32).toNatClampNeg) (-1) 0 z23) else none else none)))
set_option maxRecDepth 20000 in
theorem t_X10_again_70 {Z : q_Z} {Γ : q_C} {r : Int32} {σ' : q_S} (B : q_B Z Γ prog_12_method_37_code "WaterOthersModel" 6 3) (En : q_E Z Γ (some .int) (some (.int r)) σ') (N : Nat)  (x1 : Int32) (x2 : Int32)   : ∀ (n : Nat) (x3 : Int32) (x4 : Int32) (x5 : Int32) (σ : q_S), f_X10_again_70 N x1 x2 n x3 x4 x5 σ = some (r, σ') → q_G Z Γ 6 σ 70 [(0, .ref (Z.1 84)), (1, .int x1), (2, .int x2), (3, .int x3), (4, .int x4), (5, .int x5)] [] := by
  intro n
  induction n with
  | zero =>
    intro x3 x4 x5 σ h
    cases h
  | succ n ih =>
    intro x3 x4 x5 σ h
    unfold f_X10_again_70 at h
    refine g_iload B d_X10_again_70 rfl ?_
    refine g_bipush (v := 100) B d_X10_again_72 (by decide) ?_
    refine g_icmp_ge (tgt := 141) B d_X10_again_74 (by decide) h (fun h => ?_) (fun h => ?_)
    · refine g_bipush (v := (-6)) B d_X10_again_141 (by decide) ?_
      obtain ⟨rfl, rfl⟩ := q_ps h
      exact g_iret B En d_X10_again_143
    · refine g_iload_n B d_X10_again_77 rfl rfl ?_
      refine g_aload_n B d_X10_again_78 rfl rfl ?_
      refine g_get (ci := 10) (k := 1) (v := .ref (Z.1 86)) B d_X10_again_79 q_in10 rfl (by decide) rfl (by decide) w_WaterOthersModel_13 rfl rfl ?_
      refine g_bipush (v := 6) B d_X10_again_82 (by decide) ?_
      refine g_iload_n B d_X10_again_84 rfl rfl ?_
      refine g_imul B d_X10_again_85 ?_
      obtain ⟨h86, h⟩ := q_chk h
      refine g_iald B d_X10_again_86 (by decide) (fun _ _ => rfl) h86 ?_
      refine g_isub B d_X10_again_87 ?_
      refine g_iload B d_X10_again_88 rfl ?_
      refine g_ineg B d_X10_again_90 ?_
      refine g_iload B d_X10_again_91 rfl ?_
      refine g_callS (As := [.int (x3 - (σ.1 86 ((6 * x1) : Int32).toNatClampNeg)), .int (-x5), .int x5]) (rest := []) B d_X10_again_93 (t_X10_in (x3 - (σ.1 86 ((6 * x1) : Int32).toNatClampNeg)) (-x5) x5 σ rfl) m_X10_in w_WaterOthersModel_55 rfl rfl (Nat.le_of_ble_eq_true rfl) (by omega) (by decide) ?_
      refine g_if_eq (tgt := 110) B d_X10_again_96 (by decide) h (fun h => ?_) (fun h => ?_)
      · refine g_iload_n B d_X10_again_110 rfl rfl ?_
        refine g_iload B d_X10_again_111 rfl ?_
        refine g_iadd B d_X10_again_113 ?_
        refine g_callS (As := [.int (x3 + x4)]) (rest := []) B d_X10_again_114 (t_X10_isCell (x3 + x4) σ rfl) m_X10_isCell w_WaterOthersModel_66 rfl rfl (Nat.le_of_ble_eq_true rfl) (by omega) (by decide) ?_
        refine g_if_eq (tgt := 125) B d_X10_again_117 (by decide) h (fun h => ?_) (fun h => ?_)
        · refine g_iload B d_X10_again_125 rfl ?_
          refine g_ineg B d_X10_again_127 ?_
          refine g_istore B d_X10_again_128 (by decide) ?_
          refine g_iload_n B d_X10_again_130 rfl rfl ?_
          refine g_iload B d_X10_again_131 rfl ?_
          refine g_iadd B d_X10_again_133 ?_
          refine g_istore_n B d_X10_again_134 rfl (by decide) ?_
          refine g_iinc (v := (x5 + 1)) B d_X10_again_135 rfl rfl (by decide) ?_
          refine g_goto (tgt := 70) B d_X10_again_138 (by decide) ?_
          exact g_cut rfl (ih (x3 + (-x4)) (-x4) (x5 + 1) σ h)
        · refine g_iload B d_X10_again_120 rfl ?_
          refine g_goto (tgt := 128) B d_X10_again_122 (by decide) ?_
          refine g_istore B d_X10_again_128 (by decide) ?_
          refine g_iload_n B d_X10_again_130 rfl rfl ?_
          refine g_iload B d_X10_again_131 rfl ?_
          refine g_iadd B d_X10_again_133 ?_
          refine g_istore_n B d_X10_again_134 rfl (by decide) ?_
          refine g_iinc (v := (x5 + 1)) B d_X10_again_135 rfl rfl (by decide) ?_
          refine g_goto (tgt := 70) B d_X10_again_138 (by decide) ?_
          exact g_cut rfl (ih (x3 + x4) x4 (x5 + 1) σ h)
      · refine g_iload_n B d_X10_again_99 rfl rfl ?_
        refine g_if_ne (tgt := 108) B d_X10_again_100 (by decide) h (fun h => ?_) (fun h => ?_)
        · refine g_iload_n B d_X10_again_108 rfl rfl ?_
          obtain ⟨rfl, rfl⟩ := q_ps h
          exact g_iret B En d_X10_again_109
        · refine g_iload B d_X10_again_103 rfl ?_
          refine g_goto (tgt := 109) B d_X10_again_105 (by decide) ?_
          obtain ⟨rfl, rfl⟩ := q_ps h
          exact g_iret B En d_X10_again_109
set_option maxRecDepth 20000 in
theorem t_X10_again {Z : q_Z} {l : Launch} (N : Nat) (a0 : Int32) (a1 : Int32)  (σ : q_S) {r : Int32} {σ' : q_S} (h : f_X10_again N a0 a1 σ = some (r, σ')) : q_M Z l y_X10_again prog_12_method_37_code 6 (some .int) 3 [.ref (Z.1 84), .int a0, .int a1] σ (some (.int r)) σ' := by
  refine q_met (by decide +kernel) (Nat.le_of_ble_eq_true rfl) (fun Γ hΓ B En => ?_)
  unfold f_X10_again at h
  refine g_cut (lv' := [(0, .ref (Z.1 84)), (1, .int a0), (2, .int a1)]) rfl ?_
  refine g_aload_n B d_X10_again_0 rfl rfl ?_
  refine g_iload_n B d_X10_again_1 rfl rfl ?_
  refine g_callV (p0 := 84) (ci := 10) (As := [.int a0]) (rest := []) B d_X10_again_2 (t_X10_isThere a0 σ rfl) m_X10_isThere w_WaterOthersModel_77 (by decide) rfl rfl rfl rfl (Nat.le_of_ble_eq_true rfl) (by omega) (by decide) ?_
  refine g_if_ne (tgt := 10) B d_X10_again_5 (by decide) h (fun h => ?_) (fun h => ?_)
  · refine g_iload_n B d_X10_again_10 rfl rfl ?_
    refine g_iconst (v := 0) B d_X10_again_11 (by decide) ?_
    refine g_iconst (v := 1) B d_X10_again_12 (by decide) ?_
    refine g_callS (As := [.int a1, .int 0, .int 1]) (rest := []) B d_X10_again_13 (t_X10_in a1 0 1 σ rfl) m_X10_in w_WaterOthersModel_55 rfl rfl (Nat.le_of_ble_eq_true rfl) (by omega) (by decide) ?_
    refine g_if_ne (tgt := 22) B d_X10_again_16 (by decide) h (fun h => ?_) (fun h => ?_)
    · refine g_aload_n B d_X10_again_22 rfl rfl ?_
      obtain ⟨z23, g23, h⟩ := q_bind h
      refine g_callV (p0 := 84) (ci := 10) (As := []) (rest := []) B d_X10_again_23 (t_X10_asNow N σ g23) m_X10_asNow w_WaterOthersModel_117 (by decide) rfl rfl rfl rfl (Nat.le_of_ble_eq_true rfl) (by omega) (by decide) ?_
      refine g_aload_n B d_X10_again_26 rfl rfl ?_
      refine g_iload_n B d_X10_again_27 rfl rfl ?_
      obtain ⟨z28, g28, h⟩ := q_bind h
      refine g_callV (p0 := 84) (ci := 10) (As := [.int a0]) (rest := []) B d_X10_again_28 (t_X10_hasParted a0 z23 g28) m_X10_hasParted w_WaterOthersModel_93 (by decide) rfl rfl rfl rfl (Nat.le_of_ble_eq_true rfl) (by omega) (by decide) ?_
      refine g_if_ne (tgt := 37) B d_X10_again_31 (by decide) h (fun h => ?_) (fun h => ?_)
      · refine g_aload_n B d_X10_again_37 rfl rfl ?_
        refine g_get (ci := 10) (k := 1) (v := .ref (Z.1 86)) B d_X10_again_38 q_in10 rfl (by decide) rfl (by decide) w_WaterOthersModel_13 rfl rfl ?_
        refine g_bipush (v := 36) B d_X10_again_41 (by decide) ?_
        refine g_iload_n B d_X10_again_43 rfl rfl ?_
        refine g_iadd B d_X10_again_44 ?_
        obtain ⟨h45, h⟩ := q_chk h
        refine g_iald B d_X10_again_45 (by decide) (fun _ _ => rfl) h45 ?_
        refine g_istore_n B d_X10_again_46 rfl (by decide) ?_
        refine g_aload_n B d_X10_again_47 rfl rfl ?_
        refine g_get (ci := 10) (k := 1) (v := .ref (Z.1 86)) B d_X10_again_48 q_in10 rfl (by decide) rfl (by decide) w_WaterOthersModel_13 rfl rfl ?_
        refine g_bipush (v := 42) B d_X10_again_51 (by decide) ?_
        refine g_iload_n B d_X10_again_53 rfl rfl ?_
        refine g_iadd B d_X10_again_54 ?_
        obtain ⟨h55, h⟩ := q_chk h
        refine g_iald B d_X10_again_55 (by decide) (fun _ _ => rfl) h55 ?_
        refine g_iconst (v := 1) B d_X10_again_56 (by decide) ?_
        refine g_icmp_ne (tgt := 64) B d_X10_again_57 (by decide) h (fun h => ?_) (fun h => ?_)
        · refine g_iconst (v := (-1)) B d_X10_again_64 (by decide) ?_
          refine g_istore B d_X10_again_65 (by decide) ?_
          refine g_iconst (v := 0) B d_X10_again_67 (by decide) ?_
          refine g_istore B d_X10_again_68 (by decide) ?_
          exact g_cut rfl (t_X10_again_70 B En N a0 a1 N (z23.1 86 ((36 + a0) : Int32).toNatClampNeg) (-1) 0 z23 h)
        · refine g_iconst (v := 1) B d_X10_again_60 (by decide) ?_
          refine g_goto (tgt := 65) B d_X10_again_61 (by decide) ?_
          refine g_istore B d_X10_again_65 (by decide) ?_
          refine g_iconst (v := 0) B d_X10_again_67 (by decide) ?_
          refine g_istore B d_X10_again_68 (by decide) ?_
          exact g_cut rfl (t_X10_again_70 B En N a0 a1 N (z23.1 86 ((36 + a0) : Int32).toNatClampNeg) 1 0 z23 h)
      · refine g_bipush (v := (-3)) B d_X10_again_34 (by decide) ?_
        obtain ⟨rfl, rfl⟩ := q_ps h
        exact g_iret B En d_X10_again_36
    · refine g_bipush (v := (-2)) B d_X10_again_19 (by decide) ?_
      obtain ⟨rfl, rfl⟩ := q_ps h
      exact g_iret B En d_X10_again_21
  · refine g_iconst (v := (-1)) B d_X10_again_8 (by decide) ?_
    obtain ⟨rfl, rfl⟩ := q_ps h
    exact g_iret B En d_X10_again_9

def f_X10_digit_4 (N : Nat)  (x1 : Int32)  : Nat → Int32 → Int32 → Option Int32
  | 0, _, _ => none
  | n + 1, x2, x3 =>
    if x3 ≤ x1 then (some (q_rem x2 10))
    else (f_X10_digit_4 N x1 n (x2 / 10) (x3 + (-1)))
def f_X10_digit (N : Nat) (a0 : Int32) (a1 : Int32) : Option Int32 :=
  f_X10_digit_4 N a1 N a0 5
set_option maxRecDepth 20000 in
theorem t_X10_digit_4 {Z : q_Z} {Γ : q_C} {σ : q_S} {r : Int32} (B : q_B Z Γ prog_12_method_38_code "WaterOthersModel" 4 1) (En : q_E Z Γ (some .int) (some (.int r)) σ) (N : Nat)  (x1 : Int32)   : ∀ (n : Nat) (x2 : Int32) (x3 : Int32), f_X10_digit_4 N x1 n x2 x3 = some r → q_G Z Γ 4 σ 4 [(1, .int x1), (2, .int x2), (3, .int x3)] [] := by
  intro n
  induction n with
  | zero =>
    intro x2 x3 h
    cases h
  | succ n ih =>
    intro x2 x3 h
    unfold f_X10_digit_4 at h
    refine g_iload_n B d_X10_digit_4 rfl rfl ?_
    refine g_iload_n B d_X10_digit_5 rfl rfl ?_
    refine g_icmp_le (tgt := 20) B d_X10_digit_6 (by decide) h (fun h => ?_) (fun h => ?_)
    · refine g_iload_n B d_X10_digit_20 rfl rfl ?_
      refine g_bipush (v := 10) B d_X10_digit_21 (by decide) ?_
      refine g_irem B d_X10_digit_23 (by decide) ?_
      obtain rfl := q_po h
      exact g_iret B En d_X10_digit_24
    · refine g_iload_n B d_X10_digit_9 rfl rfl ?_
      refine g_bipush (v := 10) B d_X10_digit_10 (by decide) ?_
      refine g_idiv B d_X10_digit_12 (by decide) ?_
      refine g_istore_n B d_X10_digit_13 rfl (by decide) ?_
      refine g_iinc (v := (x3 + (-1))) B d_X10_digit_14 rfl rfl (by decide) ?_
      refine g_goto (tgt := 4) B d_X10_digit_17 (by decide) ?_
      exact g_cut rfl (ih (x2 / 10) (x3 + (-1)) h)
set_option maxRecDepth 20000 in
theorem t_X10_digit {Z : q_Z} {l : Launch} (N : Nat) (a0 : Int32) (a1 : Int32)  (σ : q_S) {r : Int32} (h : f_X10_digit N a0 a1 = some r) : q_M Z l y_X10_digit prog_12_method_38_code 4 (some .int) 1 [.int a0, .int a1] σ (some (.int r)) σ := by
  refine q_met (by decide +kernel) (Nat.le_of_ble_eq_true rfl) (fun Γ hΓ B En => ?_)
  unfold f_X10_digit at h
  refine g_cut (lv' := [(0, .int a0), (1, .int a1)]) rfl ?_
  refine g_iload_n B d_X10_digit_0 rfl rfl ?_
  refine g_istore_n B d_X10_digit_1 rfl (by decide) ?_
  refine g_iconst (v := 5) B d_X10_digit_2 (by decide) ?_
  refine g_istore_n B d_X10_digit_3 rfl (by decide) ?_
  exact g_cut rfl (t_X10_digit_4 B En N a1 N a0 5 h)

theorem k_w_WaterOthersModel_150 : Cond.constant "WaterOthersModel" 150 (999999) ∈ q_tbl := q_mem 895 (by decide +kernel) (by decide +kernel)
theorem k_w_WaterOthersModel_154 : Cond.constant "WaterOthersModel" 154 (1000000) ∈ q_tbl := q_mem 899 (by decide +kernel) (by decide +kernel)
theorem w_WaterOthersModel_151 : Cond.methodLink "WaterOthersModel" 151 y_X10_digit ∈ q_tbl := q_mem 896 (by decide +kernel) (by decide +kernel)
def f_X10_order_244 (N : Nat) (k106 : Int32 → Int32 → Int32 → Option Int32) (k132 : Int32 → Int32 → Int32 → Int32 → Int32 → Int32 → Option Int32) (x1 : Int32) (x2 : Int32) (x3 : Int32) (x4 : Int32) (x5 : Int32) (x6 : Int32) (x7 : Int32) (x8 : Int32) (x9 : Int32) (x10 : Int32) (x13 : Int32) (x14 : Int32) (x15 : Int32) (x17 : Int32) (t0 : Int32)  : Option Int32 :=
  (f_X10_digit N x2 x15).bind fun z251 =>
  k132 x9 x10 (x17 + z251) t0 ((10 * x13) + x15) (x14 + 1)
def f_X10_order_211 (N : Nat) (k106 : Int32 → Int32 → Int32 → Option Int32) (k132 : Int32 → Int32 → Int32 → Int32 → Int32 → Int32 → Option Int32) (x1 : Int32) (x2 : Int32) (x3 : Int32) (x4 : Int32) (x5 : Int32) (x6 : Int32) (x7 : Int32) (x8 : Int32) (x9 : Int32) (x10 : Int32) (x12 : Int32) (x13 : Int32) (x14 : Int32) (x15 : Int32) (x16 : Int32) (t0 : Int32)  : Option Int32 :=
  if x16 = 0 then (f_X10_order_244 N (k106) (k132) x1 x2 x3 x4 x5 x6 x7 x8 x9 (x10 ||| (1 <<< (x15 &&& 31))) x13 x14 x15 t0 1000000)
  else ((f_X10_digit N x1 x15).bind fun z235 =>
    f_X10_order_244 N (k106) (k132) x1 x2 x3 x4 x5 x6 x7 x8 x9 (x10 ||| (1 <<< (x15 &&& 31))) x13 x14 x15 t0 ((x12 + t0) - z235))
def f_X10_order_187 (N : Nat) (k106 : Int32 → Int32 → Int32 → Option Int32) (k132 : Int32 → Int32 → Int32 → Int32 → Int32 → Int32 → Option Int32) (x1 : Int32) (x2 : Int32) (x3 : Int32) (x4 : Int32) (x5 : Int32) (x6 : Int32) (x7 : Int32) (x8 : Int32) (x9 : Int32) (x10 : Int32) (x11 : Int32) (x12 : Int32) (x13 : Int32) (x14 : Int32) (x15 : Int32) (t0 : Int32)  : Option Int32 :=
  (f_X10_digit N x1 x15).bind fun z192 =>
  if z192 ≤ x11 then (f_X10_order_211 N (k106) (k132) x1 x2 x3 x4 x5 x6 x7 x8 x9 x10 x12 x13 x14 x15 t0 x11)
  else ((f_X10_digit N x1 x15).bind fun z203 =>
    f_X10_order_211 N (k106) (k132) x1 x2 x3 x4 x5 x6 x7 x8 x9 x10 x12 x13 x14 x15 t0 z203)
def f_X10_order_287 (N : Nat) (k106 : Int32 → Int32 → Int32 → Option Int32) (x1 : Int32) (x2 : Int32) (x3 : Int32) (x4 : Int32) (x5 : Int32) (x6 : Int32) (x8 : Int32) (x12 : Int32) (t0 : Int32)  : Option Int32 :=
  if x6 ≤ x12 then (k106 x6 t0 (x8 + 1))
  else (k106 x12 t0 (x8 + 1))
def f_X10_order_132 (N : Nat) (k106 : Int32 → Int32 → Int32 → Option Int32) (x1 : Int32) (x2 : Int32) (x3 : Int32) (x4 : Int32) (x5 : Int32) (x6 : Int32) (x7 : Int32) (x8 : Int32)  : Nat → Int32 → Int32 → Int32 → Int32 → Int32 → Int32 → Option Int32
  | 0, _, _, _, _, _, _ => none
  | n + 1, x9, x10, x11, x12, x13, x14 =>
    if x4 ≤ x14 then (if x6 ≤ x12 then (f_X10_order_287 N (k106) x1 x2 x3 x4 x5 x6 x8 x12 x7)
      else (f_X10_order_287 N (k106) x1 x2 x3 x4 x5 x6 x8 x12 x13))
    else (if (1000000 : Int32) ≤ x12 then (if x6 ≤ x12 then (f_X10_order_287 N (k106) x1 x2 x3 x4 x5 x6 x8 x12 x7)
        else (f_X10_order_287 N (k106) x1 x2 x3 x4 x5 x6 x8 x12 x13))
      else (if ¬ (x9 / 6) = 0 then if (f_X10_has x10 (q_rem (x8 / (x9 / 6)) 6)) = 0 then ((f_X10_digit N x2 (q_rem (x8 / (x9 / 6)) 6)).bind fun z176 =>
          if z176 ≤ 0 then (f_X10_order_187 N (k106) (fun x9 x10 x11 x12 x13 x14 => f_X10_order_132 N k106 x1 x2 x3 x4 x5 x6 x7 x8 n x9 x10 x11 x12 x13 x14) x1 x2 x3 x4 x5 x6 x7 x8 (x9 / 6) x10 x11 x12 x13 x14 (q_rem (x8 / (x9 / 6)) 6) 0)
          else (f_X10_order_187 N (k106) (fun x9 x10 x11 x12 x13 x14 => f_X10_order_132 N k106 x1 x2 x3 x4 x5 x6 x7 x8 n x9 x10 x11 x12 x13 x14) x1 x2 x3 x4 x5 x6 x7 x8 (x9 / 6) x10 x11 x12 x13 x14 (q_rem (x8 / (x9 / 6)) 6) 1))
        else (f_X10_order_187 N (k106) (fun x9 x10 x11 x12 x13 x14 => f_X10_order_132 N k106 x1 x2 x3 x4 x5 x6 x7 x8 n x9 x10 x11 x12 x13 x14) x1 x2 x3 x4 x5 x6 x7 x8 (x9 / 6) x10 x11 x12 x13 x14 (q_rem (x8 / (x9 / 6)) 6) 0) else none))
def f_X10_order_106 (N : Nat)  (x1 : Int32) (x2 : Int32) (x3 : Int32) (x4 : Int32) (x5 : Int32)  : Nat → Int32 → Int32 → Int32 → Option Int32
  | 0, _, _, _ => none
  | n + 1, x6, x7, x8 =>
    if x5 ≤ x8 then (if x3 = 0 then (some x6)
      else (some x7))
    else (f_X10_order_132 N (fun x6 x7 x8 => f_X10_order_106 N x1 x2 x3 x4 x5 n x6 x7 x8) x1 x2 x3 x4 x5 x6 x7 x8 N x5 0 0 0 0 0)
def f_X10_order_76 (N : Nat)  (x1 : Int32) (x2 : Int32) (x3 : Int32) (x4 : Int32)  : Nat → Int32 → Int32 → Option Int32
  | 0, _, _ => none
  | n + 1, x5, x6 =>
    if x4 ≤ x6 then (f_X10_order_106 N x1 x2 x3 x4 x5 N 1000000 0 0)
    else (f_X10_order_76 N x1 x2 x3 x4 n (x5 * 6) (x6 + 1))
def f_X10_order_38 (N : Nat)  (x1 : Int32) (x2 : Int32) (x3 : Int32)  : Nat → Int32 → Int32 → Option Int32
  | 0, _, _ => none
  | n + 1, x4, x5 =>
    if (6 : Int32) ≤ x5 then (f_X10_order_76 N x1 x2 x3 x4 N 1 0)
    else ((f_X10_digit N x2 x5).bind fun z50 =>
      if z50 ≤ 0 then (f_X10_order_38 N x1 x2 x3 n (x4 + 0) (x5 + 1))
      else (f_X10_order_38 N x1 x2 x3 n (x4 + 1) (x5 + 1)))
def f_X10_order (N : Nat) (a0 : Int32) (a1 : Int32) (a2 : Int32) : Option Int32 :=
  if (f_X10_in a0 0 999999) = 0 then (some (-2))
  else (if (f_X10_in a1 0 999999) = 0 then (some (-2))
    else (if (f_X10_in a2 0 1) = 0 then (some (-2))
      else (f_X10_order_38 N a0 a1 a2 N 0 0)))
set_option maxRecDepth 20000 in
theorem t_X10_order_244 {Z : q_Z} {Γ : q_C} {σ : q_S} {r : Int32} (B : q_B Z Γ prog_12_method_39_code "WaterOthersModel" 18 2) (En : q_E Z Γ (some .int) (some (.int r)) σ) (N : Nat) (k106 : Int32 → Int32 → Int32 → Option Int32) (k132 : Int32 → Int32 → Int32 → Int32 → Int32 → Int32 → Option Int32) (x1 : Int32) (x2 : Int32) (x3 : Int32) (x4 : Int32) (x5 : Int32) (x6 : Int32) (x7 : Int32) (x8 : Int32) (x9 : Int32) (x10 : Int32) (x13 : Int32) (x14 : Int32) (x15 : Int32) (x17 : Int32) (t0 : Int32) (K106 : ∀ (x6 : Int32) (x7 : Int32) (x8 : Int32), k106 x6 x7 x8 = some r → q_G Z Γ 18 σ 106 [(1, .int x1), (2, .int x2), (3, .int x3), (4, .int x4), (5, .int x5), (6, .int x6), (7, .int x7), (8, .int x8)] []) (K132 : ∀ (x9 : Int32) (x10 : Int32) (x11 : Int32) (x12 : Int32) (x13 : Int32) (x14 : Int32), k132 x9 x10 x11 x12 x13 x14 = some r → q_G Z Γ 18 σ 132 [(1, .int x1), (2, .int x2), (3, .int x3), (4, .int x4), (5, .int x5), (6, .int x6), (7, .int x7), (8, .int x8), (9, .int x9), (10, .int x10), (11, .int x11), (12, .int x12), (13, .int x13), (14, .int x14)] [])  (h : f_X10_order_244 N k106 k132 x1 x2 x3 x4 x5 x6 x7 x8 x9 x10 x13 x14 x15 x17 t0 = some r) : q_G Z Γ 18 σ 244 [(1, .int x1), (2, .int x2), (3, .int x3), (4, .int x4), (5, .int x5), (6, .int x6), (7, .int x7), (8, .int x8), (9, .int x9), (10, .int x10), (13, .int x13), (14, .int x14), (15, .int x15), (17, .int x17)] [.int t0] := by
  unfold f_X10_order_244 at h
  refine g_istore B d_X10_order_244 (by decide) ?_
  refine g_iload B d_X10_order_246 rfl ?_
  refine g_iload_n B d_X10_order_248 rfl rfl ?_
  refine g_iload B d_X10_order_249 rfl ?_
  obtain ⟨z251, g251, h⟩ := q_bind h
  refine g_callS (As := [.int x2, .int x15]) (rest := [.int x17]) B d_X10_order_251 (t_X10_digit N x2 x15 σ g251) m_X10_digit w_WaterOthersModel_151 rfl rfl (Nat.le_of_ble_eq_true rfl) (by omega) (by decide) ?_
  refine g_iadd B d_X10_order_254 ?_
  refine g_istore B d_X10_order_255 (by decide) ?_
  refine g_bipush (v := 10) B d_X10_order_257 (by decide) ?_
  refine g_iload B d_X10_order_259 rfl ?_
  refine g_imul B d_X10_order_261 ?_
  refine g_iload B d_X10_order_262 rfl ?_
  refine g_iadd B d_X10_order_264 ?_
  refine g_istore B d_X10_order_265 (by decide) ?_
  refine g_iinc (v := (x14 + 1)) B d_X10_order_267 rfl rfl (by decide) ?_
  refine g_goto (tgt := 132) B d_X10_order_270 (by decide) ?_
  exact g_cut rfl (K132 x9 x10 (x17 + z251) t0 ((10 * x13) + x15) (x14 + 1) h)
set_option maxRecDepth 20000 in
theorem t_X10_order_211 {Z : q_Z} {Γ : q_C} {σ : q_S} {r : Int32} (B : q_B Z Γ prog_12_method_39_code "WaterOthersModel" 18 2) (En : q_E Z Γ (some .int) (some (.int r)) σ) (N : Nat) (k106 : Int32 → Int32 → Int32 → Option Int32) (k132 : Int32 → Int32 → Int32 → Int32 → Int32 → Int32 → Option Int32) (x1 : Int32) (x2 : Int32) (x3 : Int32) (x4 : Int32) (x5 : Int32) (x6 : Int32) (x7 : Int32) (x8 : Int32) (x9 : Int32) (x10 : Int32) (x12 : Int32) (x13 : Int32) (x14 : Int32) (x15 : Int32) (x16 : Int32) (t0 : Int32) (K106 : ∀ (x6 : Int32) (x7 : Int32) (x8 : Int32), k106 x6 x7 x8 = some r → q_G Z Γ 18 σ 106 [(1, .int x1), (2, .int x2), (3, .int x3), (4, .int x4), (5, .int x5), (6, .int x6), (7, .int x7), (8, .int x8)] []) (K132 : ∀ (x9 : Int32) (x10 : Int32) (x11 : Int32) (x12 : Int32) (x13 : Int32) (x14 : Int32), k132 x9 x10 x11 x12 x13 x14 = some r → q_G Z Γ 18 σ 132 [(1, .int x1), (2, .int x2), (3, .int x3), (4, .int x4), (5, .int x5), (6, .int x6), (7, .int x7), (8, .int x8), (9, .int x9), (10, .int x10), (11, .int x11), (12, .int x12), (13, .int x13), (14, .int x14)] [])  (h : f_X10_order_211 N k106 k132 x1 x2 x3 x4 x5 x6 x7 x8 x9 x10 x12 x13 x14 x15 x16 t0 = some r) : q_G Z Γ 18 σ 211 [(1, .int x1), (2, .int x2), (3, .int x3), (4, .int x4), (5, .int x5), (6, .int x6), (7, .int x7), (8, .int x8), (9, .int x9), (10, .int x10), (12, .int x12), (13, .int x13), (14, .int x14), (15, .int x15), (16, .int x16)] [.int t0] := by
  unfold f_X10_order_211 at h
  refine g_istore B d_X10_order_211 (by decide) ?_
  refine g_iload B d_X10_order_213 rfl ?_
  refine g_iconst (v := 1) B d_X10_order_215 (by decide) ?_
  refine g_iload B d_X10_order_216 rfl ?_
  refine g_ishl B d_X10_order_218 ?_
  refine g_ior B d_X10_order_219 ?_
  refine g_istore B d_X10_order_220 (by decide) ?_
  refine g_iload B d_X10_order_222 rfl ?_
  refine g_if_eq (tgt := 242) B d_X10_order_224 (by decide) h (fun h => ?_) (fun h => ?_)
  · refine g_ldc (v := 1000000) B d_X10_order_242 k_w_WaterOthersModel_154 ?_
    exact g_cut rfl (t_X10_order_244 B En N (k106) (k132) x1 x2 x3 x4 x5 x6 x7 x8 x9 (x10 ||| (1 <<< (x15 &&& 31))) x13 x14 x15 t0 1000000 (K106) (K132) h)
  · refine g_iload B d_X10_order_227 rfl ?_
    refine g_iload B d_X10_order_229 rfl ?_
    refine g_iadd B d_X10_order_231 ?_
    refine g_iload_n B d_X10_order_232 rfl rfl ?_
    refine g_iload B d_X10_order_233 rfl ?_
    obtain ⟨z235, g235, h⟩ := q_bind h
    refine g_callS (As := [.int x1, .int x15]) (rest := [.int (x12 + t0)]) B d_X10_order_235 (t_X10_digit N x1 x15 σ g235) m_X10_digit w_WaterOthersModel_151 rfl rfl (Nat.le_of_ble_eq_true rfl) (by omega) (by decide) ?_
    refine g_isub B d_X10_order_238 ?_
    refine g_goto (tgt := 244) B d_X10_order_239 (by decide) ?_
    exact g_cut rfl (t_X10_order_244 B En N (k106) (k132) x1 x2 x3 x4 x5 x6 x7 x8 x9 (x10 ||| (1 <<< (x15 &&& 31))) x13 x14 x15 t0 ((x12 + t0) - z235) (K106) (K132) h)
set_option maxRecDepth 20000 in
theorem t_X10_order_187 {Z : q_Z} {Γ : q_C} {σ : q_S} {r : Int32} (B : q_B Z Γ prog_12_method_39_code "WaterOthersModel" 18 2) (En : q_E Z Γ (some .int) (some (.int r)) σ) (N : Nat) (k106 : Int32 → Int32 → Int32 → Option Int32) (k132 : Int32 → Int32 → Int32 → Int32 → Int32 → Int32 → Option Int32) (x1 : Int32) (x2 : Int32) (x3 : Int32) (x4 : Int32) (x5 : Int32) (x6 : Int32) (x7 : Int32) (x8 : Int32) (x9 : Int32) (x10 : Int32) (x11 : Int32) (x12 : Int32) (x13 : Int32) (x14 : Int32) (x15 : Int32) (t0 : Int32) (K106 : ∀ (x6 : Int32) (x7 : Int32) (x8 : Int32), k106 x6 x7 x8 = some r → q_G Z Γ 18 σ 106 [(1, .int x1), (2, .int x2), (3, .int x3), (4, .int x4), (5, .int x5), (6, .int x6), (7, .int x7), (8, .int x8)] []) (K132 : ∀ (x9 : Int32) (x10 : Int32) (x11 : Int32) (x12 : Int32) (x13 : Int32) (x14 : Int32), k132 x9 x10 x11 x12 x13 x14 = some r → q_G Z Γ 18 σ 132 [(1, .int x1), (2, .int x2), (3, .int x3), (4, .int x4), (5, .int x5), (6, .int x6), (7, .int x7), (8, .int x8), (9, .int x9), (10, .int x10), (11, .int x11), (12, .int x12), (13, .int x13), (14, .int x14)] [])  (h : f_X10_order_187 N k106 k132 x1 x2 x3 x4 x5 x6 x7 x8 x9 x10 x11 x12 x13 x14 x15 t0 = some r) : q_G Z Γ 18 σ 187 [(1, .int x1), (2, .int x2), (3, .int x3), (4, .int x4), (5, .int x5), (6, .int x6), (7, .int x7), (8, .int x8), (9, .int x9), (10, .int x10), (11, .int x11), (12, .int x12), (13, .int x13), (14, .int x14), (15, .int x15)] [.int t0] := by
  unfold f_X10_order_187 at h
  refine g_istore B d_X10_order_187 (by decide) ?_
  refine g_iload_n B d_X10_order_189 rfl rfl ?_
  refine g_iload B d_X10_order_190 rfl ?_
  obtain ⟨z192, g192, h⟩ := q_bind h
  refine g_callS (As := [.int x1, .int x15]) (rest := []) B d_X10_order_192 (t_X10_digit N x1 x15 σ g192) m_X10_digit w_WaterOthersModel_151 rfl rfl (Nat.le_of_ble_eq_true rfl) (by omega) (by decide) ?_
  refine g_iload B d_X10_order_195 rfl ?_
  refine g_icmp_le (tgt := 209) B d_X10_order_197 (by decide) h (fun h => ?_) (fun h => ?_)
  · refine g_iload B d_X10_order_209 rfl ?_
    exact g_cut rfl (t_X10_order_211 B En N (k106) (k132) x1 x2 x3 x4 x5 x6 x7 x8 x9 x10 x12 x13 x14 x15 t0 x11 (K106) (K132) h)
  · refine g_iload_n B d_X10_order_200 rfl rfl ?_
    refine g_iload B d_X10_order_201 rfl ?_
    obtain ⟨z203, g203, h⟩ := q_bind h
    refine g_callS (As := [.int x1, .int x15]) (rest := []) B d_X10_order_203 (t_X10_digit N x1 x15 σ g203) m_X10_digit w_WaterOthersModel_151 rfl rfl (Nat.le_of_ble_eq_true rfl) (by omega) (by decide) ?_
    refine g_goto (tgt := 211) B d_X10_order_206 (by decide) ?_
    exact g_cut rfl (t_X10_order_211 B En N (k106) (k132) x1 x2 x3 x4 x5 x6 x7 x8 x9 x10 x12 x13 x14 x15 t0 z203 (K106) (K132) h)
set_option maxRecDepth 20000 in
theorem t_X10_order_287 {Z : q_Z} {Γ : q_C} {σ : q_S} {r : Int32} (B : q_B Z Γ prog_12_method_39_code "WaterOthersModel" 18 2) (En : q_E Z Γ (some .int) (some (.int r)) σ) (N : Nat) (k106 : Int32 → Int32 → Int32 → Option Int32) (x1 : Int32) (x2 : Int32) (x3 : Int32) (x4 : Int32) (x5 : Int32) (x6 : Int32) (x8 : Int32) (x12 : Int32) (t0 : Int32) (K106 : ∀ (x6 : Int32) (x7 : Int32) (x8 : Int32), k106 x6 x7 x8 = some r → q_G Z Γ 18 σ 106 [(1, .int x1), (2, .int x2), (3, .int x3), (4, .int x4), (5, .int x5), (6, .int x6), (7, .int x7), (8, .int x8)] [])  (h : f_X10_order_287 N k106 x1 x2 x3 x4 x5 x6 x8 x12 t0 = some r) : q_G Z Γ 18 σ 287 [(1, .int x1), (2, .int x2), (3, .int x3), (4, .int x4), (5, .int x5), (6, .int x6), (8, .int x8), (12, .int x12)] [.int t0] := by
  unfold f_X10_order_287 at h
  refine g_istore B d_X10_order_287 (by decide) ?_
  refine g_iload B d_X10_order_289 rfl ?_
  refine g_iload B d_X10_order_291 rfl ?_
  refine g_icmp_ge (tgt := 301) B d_X10_order_293 (by decide) h (fun h => ?_) (fun h => ?_)
  · refine g_iload B d_X10_order_301 rfl ?_
    refine g_istore B d_X10_order_303 (by decide) ?_
    refine g_iinc (v := (x8 + 1)) B d_X10_order_305 rfl rfl (by decide) ?_
    refine g_goto (tgt := 106) B d_X10_order_308 (by decide) ?_
    exact g_cut rfl (K106 x6 t0 (x8 + 1) h)
  · refine g_iload B d_X10_order_296 rfl ?_
    refine g_goto (tgt := 303) B d_X10_order_298 (by decide) ?_
    refine g_istore B d_X10_order_303 (by decide) ?_
    refine g_iinc (v := (x8 + 1)) B d_X10_order_305 rfl rfl (by decide) ?_
    refine g_goto (tgt := 106) B d_X10_order_308 (by decide) ?_
    exact g_cut rfl (K106 x12 t0 (x8 + 1) h)
set_option maxRecDepth 20000 in
theorem t_X10_order_132 {Z : q_Z} {Γ : q_C} {σ : q_S} {r : Int32} (B : q_B Z Γ prog_12_method_39_code "WaterOthersModel" 18 2) (En : q_E Z Γ (some .int) (some (.int r)) σ) (N : Nat) (k106 : Int32 → Int32 → Int32 → Option Int32) (x1 : Int32) (x2 : Int32) (x3 : Int32) (x4 : Int32) (x5 : Int32) (x6 : Int32) (x7 : Int32) (x8 : Int32) (K106 : ∀ (x6 : Int32) (x7 : Int32) (x8 : Int32), k106 x6 x7 x8 = some r → q_G Z Γ 18 σ 106 [(1, .int x1), (2, .int x2), (3, .int x3), (4, .int x4), (5, .int x5), (6, .int x6), (7, .int x7), (8, .int x8)] [])  : ∀ (n : Nat) (x9 : Int32) (x10 : Int32) (x11 : Int32) (x12 : Int32) (x13 : Int32) (x14 : Int32), f_X10_order_132 N k106 x1 x2 x3 x4 x5 x6 x7 x8 n x9 x10 x11 x12 x13 x14 = some r → q_G Z Γ 18 σ 132 [(1, .int x1), (2, .int x2), (3, .int x3), (4, .int x4), (5, .int x5), (6, .int x6), (7, .int x7), (8, .int x8), (9, .int x9), (10, .int x10), (11, .int x11), (12, .int x12), (13, .int x13), (14, .int x14)] [] := by
  intro n
  induction n with
  | zero =>
    intro x9 x10 x11 x12 x13 x14 h
    cases h
  | succ n ih =>
    intro x9 x10 x11 x12 x13 x14 h
    unfold f_X10_order_132 at h
    refine g_iload B d_X10_order_132 rfl ?_
    refine g_iload B d_X10_order_134 rfl ?_
    refine g_icmp_ge (tgt := 273) B d_X10_order_136 (by decide) h (fun h => ?_) (fun h => ?_)
    · refine g_iload B d_X10_order_273 rfl ?_
      refine g_iload B d_X10_order_275 rfl ?_
      refine g_icmp_ge (tgt := 285) B d_X10_order_277 (by decide) h (fun h => ?_) (fun h => ?_)
      · refine g_iload B d_X10_order_285 rfl ?_
        exact g_cut rfl (t_X10_order_287 B En N (k106) x1 x2 x3 x4 x5 x6 x8 x12 x7 (K106) h)
      · refine g_iload B d_X10_order_280 rfl ?_
        refine g_goto (tgt := 287) B d_X10_order_282 (by decide) ?_
        exact g_cut rfl (t_X10_order_287 B En N (k106) x1 x2 x3 x4 x5 x6 x8 x12 x13 (K106) h)
    · refine g_iload B d_X10_order_139 rfl ?_
      refine g_ldc (v := 1000000) B d_X10_order_141 k_w_WaterOthersModel_154 ?_
      refine g_icmp_ge (tgt := 273) B d_X10_order_143 (by decide) h (fun h => ?_) (fun h => ?_)
      · refine g_iload B d_X10_order_273 rfl ?_
        refine g_iload B d_X10_order_275 rfl ?_
        refine g_icmp_ge (tgt := 285) B d_X10_order_277 (by decide) h (fun h => ?_) (fun h => ?_)
        · refine g_iload B d_X10_order_285 rfl ?_
          exact g_cut rfl (t_X10_order_287 B En N (k106) x1 x2 x3 x4 x5 x6 x8 x12 x7 (K106) h)
        · refine g_iload B d_X10_order_280 rfl ?_
          refine g_goto (tgt := 287) B d_X10_order_282 (by decide) ?_
          exact g_cut rfl (t_X10_order_287 B En N (k106) x1 x2 x3 x4 x5 x6 x8 x12 x13 (K106) h)
      · refine g_iload B d_X10_order_146 rfl ?_
        refine g_bipush (v := 6) B d_X10_order_148 (by decide) ?_
        refine g_idiv B d_X10_order_150 (by decide) ?_
        refine g_istore B d_X10_order_151 (by decide) ?_
        refine g_iload B d_X10_order_153 rfl ?_
        refine g_iload B d_X10_order_155 rfl ?_
        obtain ⟨h157, h⟩ := q_chk h
        refine g_idiv B d_X10_order_157 h157 ?_
        refine g_bipush (v := 6) B d_X10_order_158 (by decide) ?_
        refine g_irem B d_X10_order_160 (by decide) ?_
        refine g_istore B d_X10_order_161 (by decide) ?_
        refine g_iload B d_X10_order_163 rfl ?_
        refine g_iload B d_X10_order_165 rfl ?_
        refine g_callS (As := [.int x10, .int (q_rem (x8 / (x9 / 6)) 6)]) (rest := []) B d_X10_order_167 (t_X10_has x10 (q_rem (x8 / (x9 / 6)) 6) σ rfl) m_X10_has w_WaterOthersModel_62 rfl rfl (Nat.le_of_ble_eq_true rfl) (by omega) (by decide) ?_
        refine g_if_ne (tgt := 186) B d_X10_order_170 (by decide) h (fun h => ?_) (fun h => ?_)
        · refine g_iconst (v := 0) B d_X10_order_186 (by decide) ?_
          exact g_cut rfl (t_X10_order_187 B En N (k106) (fun x9 x10 x11 x12 x13 x14 => f_X10_order_132 N k106 x1 x2 x3 x4 x5 x6 x7 x8 n x9 x10 x11 x12 x13 x14) x1 x2 x3 x4 x5 x6 x7 x8 (x9 / 6) x10 x11 x12 x13 x14 (q_rem (x8 / (x9 / 6)) 6) 0 (K106) (ih) h)
        · refine g_iload_n B d_X10_order_173 rfl rfl ?_
          refine g_iload B d_X10_order_174 rfl ?_
          obtain ⟨z176, g176, h⟩ := q_bind h
          refine g_callS (As := [.int x2, .int (q_rem (x8 / (x9 / 6)) 6)]) (rest := []) B d_X10_order_176 (t_X10_digit N x2 (q_rem (x8 / (x9 / 6)) 6) σ g176) m_X10_digit w_WaterOthersModel_151 rfl rfl (Nat.le_of_ble_eq_true rfl) (by omega) (by decide) ?_
          refine g_if_le (tgt := 186) B d_X10_order_179 (by decide) h (fun h => ?_) (fun h => ?_)
          · refine g_iconst (v := 0) B d_X10_order_186 (by decide) ?_
            exact g_cut rfl (t_X10_order_187 B En N (k106) (fun x9 x10 x11 x12 x13 x14 => f_X10_order_132 N k106 x1 x2 x3 x4 x5 x6 x7 x8 n x9 x10 x11 x12 x13 x14) x1 x2 x3 x4 x5 x6 x7 x8 (x9 / 6) x10 x11 x12 x13 x14 (q_rem (x8 / (x9 / 6)) 6) 0 (K106) (ih) h)
          · refine g_iconst (v := 1) B d_X10_order_182 (by decide) ?_
            refine g_goto (tgt := 187) B d_X10_order_183 (by decide) ?_
            exact g_cut rfl (t_X10_order_187 B En N (k106) (fun x9 x10 x11 x12 x13 x14 => f_X10_order_132 N k106 x1 x2 x3 x4 x5 x6 x7 x8 n x9 x10 x11 x12 x13 x14) x1 x2 x3 x4 x5 x6 x7 x8 (x9 / 6) x10 x11 x12 x13 x14 (q_rem (x8 / (x9 / 6)) 6) 1 (K106) (ih) h)
set_option maxRecDepth 20000 in
theorem t_X10_order_106 {Z : q_Z} {Γ : q_C} {σ : q_S} {r : Int32} (B : q_B Z Γ prog_12_method_39_code "WaterOthersModel" 18 2) (En : q_E Z Γ (some .int) (some (.int r)) σ) (N : Nat)  (x1 : Int32) (x2 : Int32) (x3 : Int32) (x4 : Int32) (x5 : Int32)   : ∀ (n : Nat) (x6 : Int32) (x7 : Int32) (x8 : Int32), f_X10_order_106 N x1 x2 x3 x4 x5 n x6 x7 x8 = some r → q_G Z Γ 18 σ 106 [(1, .int x1), (2, .int x2), (3, .int x3), (4, .int x4), (5, .int x5), (6, .int x6), (7, .int x7), (8, .int x8)] [] := by
  intro n
  induction n with
  | zero =>
    intro x6 x7 x8 h
    cases h
  | succ n ih =>
    intro x6 x7 x8 h
    unfold f_X10_order_106 at h
    refine g_iload B d_X10_order_106 rfl ?_
    refine g_iload B d_X10_order_108 rfl ?_
    refine g_icmp_ge (tgt := 311) B d_X10_order_110 (by decide) h (fun h => ?_) (fun h => ?_)
    · refine g_iload_n B d_X10_order_311 rfl rfl ?_
      refine g_if_ne (tgt := 320) B d_X10_order_312 (by decide) h (fun h => ?_) (fun h => ?_)
      · refine g_iload B d_X10_order_320 rfl ?_
        obtain rfl := q_po h
        exact g_iret B En d_X10_order_322
      · refine g_iload B d_X10_order_315 rfl ?_
        refine g_goto (tgt := 322) B d_X10_order_317 (by decide) ?_
        obtain rfl := q_po h
        exact g_iret B En d_X10_order_322
    · refine g_iload B d_X10_order_113 rfl ?_
      refine g_istore B d_X10_order_115 (by decide) ?_
      refine g_iconst (v := 0) B d_X10_order_117 (by decide) ?_
      refine g_istore B d_X10_order_118 (by decide) ?_
      refine g_iconst (v := 0) B d_X10_order_120 (by decide) ?_
      refine g_istore B d_X10_order_121 (by decide) ?_
      refine g_iconst (v := 0) B d_X10_order_123 (by decide) ?_
      refine g_istore B d_X10_order_124 (by decide) ?_
      refine g_iconst (v := 0) B d_X10_order_126 (by decide) ?_
      refine g_istore B d_X10_order_127 (by decide) ?_
      refine g_iconst (v := 0) B d_X10_order_129 (by decide) ?_
      refine g_istore B d_X10_order_130 (by decide) ?_
      exact g_cut rfl (t_X10_order_132 B En N (fun x6 x7 x8 => f_X10_order_106 N x1 x2 x3 x4 x5 n x6 x7 x8) x1 x2 x3 x4 x5 x6 x7 x8 (ih) N x5 0 0 0 0 0 h)
set_option maxRecDepth 20000 in
theorem t_X10_order_76 {Z : q_Z} {Γ : q_C} {σ : q_S} {r : Int32} (B : q_B Z Γ prog_12_method_39_code "WaterOthersModel" 18 2) (En : q_E Z Γ (some .int) (some (.int r)) σ) (N : Nat)  (x1 : Int32) (x2 : Int32) (x3 : Int32) (x4 : Int32)   : ∀ (n : Nat) (x5 : Int32) (x6 : Int32), f_X10_order_76 N x1 x2 x3 x4 n x5 x6 = some r → q_G Z Γ 18 σ 76 [(1, .int x1), (2, .int x2), (3, .int x3), (4, .int x4), (5, .int x5), (6, .int x6)] [] := by
  intro n
  induction n with
  | zero =>
    intro x5 x6 h
    cases h
  | succ n ih =>
    intro x5 x6 h
    unfold f_X10_order_76 at h
    refine g_iload B d_X10_order_76 rfl ?_
    refine g_iload B d_X10_order_78 rfl ?_
    refine g_icmp_ge (tgt := 96) B d_X10_order_80 (by decide) h (fun h => ?_) (fun h => ?_)
    · refine g_ldc (v := 1000000) B d_X10_order_96 k_w_WaterOthersModel_154 ?_
      refine g_istore B d_X10_order_98 (by decide) ?_
      refine g_iconst (v := 0) B d_X10_order_100 (by decide) ?_
      refine g_istore B d_X10_order_101 (by decide) ?_
      refine g_iconst (v := 0) B d_X10_order_103 (by decide) ?_
      refine g_istore B d_X10_order_104 (by decide) ?_
      exact g_cut rfl (t_X10_order_106 B En N x1 x2 x3 x4 x5 N 1000000 0 0 h)
    · refine g_iload B d_X10_order_83 rfl ?_
      refine g_bipush (v := 6) B d_X10_order_85 (by decide) ?_
      refine g_imul B d_X10_order_87 ?_
      refine g_istore B d_X10_order_88 (by decide) ?_
      refine g_iinc (v := (x6 + 1)) B d_X10_order_90 rfl rfl (by decide) ?_
      refine g_goto (tgt := 76) B d_X10_order_93 (by decide) ?_
      exact g_cut rfl (ih (x5 * 6) (x6 + 1) h)
set_option maxRecDepth 20000 in
theorem t_X10_order_38 {Z : q_Z} {Γ : q_C} {σ : q_S} {r : Int32} (B : q_B Z Γ prog_12_method_39_code "WaterOthersModel" 18 2) (En : q_E Z Γ (some .int) (some (.int r)) σ) (N : Nat)  (x1 : Int32) (x2 : Int32) (x3 : Int32)   : ∀ (n : Nat) (x4 : Int32) (x5 : Int32), f_X10_order_38 N x1 x2 x3 n x4 x5 = some r → q_G Z Γ 18 σ 38 [(1, .int x1), (2, .int x2), (3, .int x3), (4, .int x4), (5, .int x5)] [] := by
  intro n
  induction n with
  | zero =>
    intro x4 x5 h
    cases h
  | succ n ih =>
    intro x4 x5 h
    unfold f_X10_order_38 at h
    refine g_iload B d_X10_order_38 rfl ?_
    refine g_bipush (v := 6) B d_X10_order_40 (by decide) ?_
    refine g_icmp_ge (tgt := 70) B d_X10_order_42 (by decide) h (fun h => ?_) (fun h => ?_)
    · refine g_iconst (v := 1) B d_X10_order_70 (by decide) ?_
      refine g_istore B d_X10_order_71 (by decide) ?_
      refine g_iconst (v := 0) B d_X10_order_73 (by decide) ?_
      refine g_istore B d_X10_order_74 (by decide) ?_
      exact g_cut rfl (t_X10_order_76 B En N x1 x2 x3 x4 N 1 0 h)
    · refine g_iload B d_X10_order_45 rfl ?_
      refine g_iload_n B d_X10_order_47 rfl rfl ?_
      refine g_iload B d_X10_order_48 rfl ?_
      obtain ⟨z50, g50, h⟩ := q_bind h
      refine g_callS (As := [.int x2, .int x5]) (rest := [.int x4]) B d_X10_order_50 (t_X10_digit N x2 x5 σ g50) m_X10_digit w_WaterOthersModel_151 rfl rfl (Nat.le_of_ble_eq_true rfl) (by omega) (by decide) ?_
      refine g_if_le (tgt := 60) B d_X10_order_53 (by decide) h (fun h => ?_) (fun h => ?_)
      · refine g_iconst (v := 0) B d_X10_order_60 (by decide) ?_
        refine g_iadd B d_X10_order_61 ?_
        refine g_istore B d_X10_order_62 (by decide) ?_
        refine g_iinc (v := (x5 + 1)) B d_X10_order_64 rfl rfl (by decide) ?_
        refine g_goto (tgt := 38) B d_X10_order_67 (by decide) ?_
        exact g_cut rfl (ih (x4 + 0) (x5 + 1) h)
      · refine g_iconst (v := 1) B d_X10_order_56 (by decide) ?_
        refine g_goto (tgt := 61) B d_X10_order_57 (by decide) ?_
        refine g_iadd B d_X10_order_61 ?_
        refine g_istore B d_X10_order_62 (by decide) ?_
        refine g_iinc (v := (x5 + 1)) B d_X10_order_64 rfl rfl (by decide) ?_
        refine g_goto (tgt := 38) B d_X10_order_67 (by decide) ?_
        exact g_cut rfl (ih (x4 + 1) (x5 + 1) h)
set_option maxRecDepth 20000 in
theorem t_X10_order {Z : q_Z} {l : Launch} (N : Nat) (a0 : Int32) (a1 : Int32) (a2 : Int32)  (σ : q_S) {r : Int32} (h : f_X10_order N a0 a1 a2 = some r) : q_M Z l y_X10_order prog_12_method_39_code 18 (some .int) 2 [.ref (Z.1 84), .int a0, .int a1, .int a2] σ (some (.int r)) σ := by
  refine q_met (by decide +kernel) (Nat.le_of_ble_eq_true rfl) (fun Γ hΓ B En => ?_)
  unfold f_X10_order at h
  refine g_cut (lv' := [(0, .ref (Z.1 84)), (1, .int a0), (2, .int a1), (3, .int a2)]) rfl ?_
  refine g_iload_n B d_X10_order_0 rfl rfl ?_
  refine g_iconst (v := 0) B d_X10_order_1 (by decide) ?_
  refine g_ldc (v := 999999) B d_X10_order_2 k_w_WaterOthersModel_150 ?_
  refine g_callS (As := [.int a0, .int 0, .int 999999]) (rest := []) B d_X10_order_4 (t_X10_in a0 0 999999 σ rfl) m_X10_in w_WaterOthersModel_55 rfl rfl (Nat.le_of_ble_eq_true rfl) (by omega) (by decide) ?_
  refine g_if_eq (tgt := 29) B d_X10_order_7 (by decide) h (fun h => ?_) (fun h => ?_)
  · refine g_bipush (v := (-2)) B d_X10_order_29 (by decide) ?_
    obtain rfl := q_po h
    exact g_iret B En d_X10_order_31
  · refine g_iload_n B d_X10_order_10 rfl rfl ?_
    refine g_iconst (v := 0) B d_X10_order_11 (by decide) ?_
    refine g_ldc (v := 999999) B d_X10_order_12 k_w_WaterOthersModel_150 ?_
    refine g_callS (As := [.int a1, .int 0, .int 999999]) (rest := []) B d_X10_order_14 (t_X10_in a1 0 999999 σ rfl) m_X10_in w_WaterOthersModel_55 rfl rfl (Nat.le_of_ble_eq_true rfl) (by omega) (by decide) ?_
    refine g_if_eq (tgt := 29) B d_X10_order_17 (by decide) h (fun h => ?_) (fun h => ?_)
    · refine g_bipush (v := (-2)) B d_X10_order_29 (by decide) ?_
      obtain rfl := q_po h
      exact g_iret B En d_X10_order_31
    · refine g_iload_n B d_X10_order_20 rfl rfl ?_
      refine g_iconst (v := 0) B d_X10_order_21 (by decide) ?_
      refine g_iconst (v := 1) B d_X10_order_22 (by decide) ?_
      refine g_callS (As := [.int a2, .int 0, .int 1]) (rest := []) B d_X10_order_23 (t_X10_in a2 0 1 σ rfl) m_X10_in w_WaterOthersModel_55 rfl rfl (Nat.le_of_ble_eq_true rfl) (by omega) (by decide) ?_
      refine g_if_ne (tgt := 32) B d_X10_order_26 (by decide) h (fun h => ?_) (fun h => ?_)
      · refine g_iconst (v := 0) B d_X10_order_32 (by decide) ?_
        refine g_istore B d_X10_order_33 (by decide) ?_
        refine g_iconst (v := 0) B d_X10_order_35 (by decide) ?_
        refine g_istore B d_X10_order_36 (by decide) ?_
        exact g_cut rfl (t_X10_order_38 B En N a0 a1 a2 N 0 0 h)
      · refine g_bipush (v := (-2)) B d_X10_order_29 (by decide) ?_
        obtain rfl := q_po h
        exact g_iret B En d_X10_order_31

theorem w_WaterOthersModel_155 : Cond.fieldLink "WaterOthersModel" 155 "WaterOthersModel" "sights" "I" ∈ q_tbl := q_mem 691 (by decide +kernel) (by decide +kernel)
theorem w_WaterOthersModel_23 : Cond.fieldLink "WaterOthersModel" 23 "WaterOthersModel" "sight" "[I" ∈ q_tbl := q_mem 692 (by decide +kernel) (by decide +kernel)
def f_X10_seen (a0 : Int32) (a1 : Int32) (σ : q_S) : Option (Int32 × q_S) :=
  if (f_X10_isCell a1) = 0 then (some ((-1), σ))
  else (if (f_X10_in a0 0 60) = 0 then (some ((-2), σ))
    else (if (σ.1 84 6) = 8 then (some ((-4), σ))
      else (if ¬ (((2 * (σ.1 84 6)) : Int32) < 0 ∨ 16 ≤ ((2 * (σ.1 84 6)) : Int32).toNatClampNeg) then if ¬ ((((2 * ((q_w σ 88 ((2 * (σ.1 84 6)) : Int32).toNatClampNeg a0).1 84 6)) + 1) : Int32) < 0 ∨ 16 ≤ (((2 * ((q_w σ 88 ((2 * (σ.1 84 6)) : Int32).toNatClampNeg a0).1 84 6)) + 1) : Int32).toNatClampNeg) then some (((q_w (q_w (q_w σ 88 ((2 * (σ.1 84 6)) : Int32).toNatClampNeg a0) 88 (((2 * ((q_w σ 88 ((2 * (σ.1 84 6)) : Int32).toNatClampNeg a0).1 84 6)) + 1) : Int32).toNatClampNeg a1) 84 6 (((q_w (q_w σ 88 ((2 * (σ.1 84 6)) : Int32).toNatClampNeg a0) 88 (((2 * ((q_w σ 88 ((2 * (σ.1 84 6)) : Int32).toNatClampNeg a0).1 84 6)) + 1) : Int32).toNatClampNeg a1).1 84 6) + 1)).1 84 6), (q_w (q_w (q_w σ 88 ((2 * (σ.1 84 6)) : Int32).toNatClampNeg a0) 88 (((2 * ((q_w σ 88 ((2 * (σ.1 84 6)) : Int32).toNatClampNeg a0).1 84 6)) + 1) : Int32).toNatClampNeg a1) 84 6 (((q_w (q_w σ 88 ((2 * (σ.1 84 6)) : Int32).toNatClampNeg a0) 88 (((2 * ((q_w σ 88 ((2 * (σ.1 84 6)) : Int32).toNatClampNeg a0).1 84 6)) + 1) : Int32).toNatClampNeg a1).1 84 6) + 1))) else none else none)))
set_option maxRecDepth 20000 in
theorem t_X10_seen {Z : q_Z} {l : Launch} (a0 : Int32) (a1 : Int32)  (σ : q_S) {r : Int32} {σ' : q_S} (h : f_X10_seen a0 a1 σ = some (r, σ')) : q_M Z l y_X10_seen prog_12_method_40_code 3 (some .int) 3 [.ref (Z.1 84), .int a0, .int a1] σ (some (.int r)) σ' := by
  refine q_met (by decide +kernel) (Nat.le_of_ble_eq_true rfl) (fun Γ hΓ B En => ?_)
  unfold f_X10_seen at h
  refine g_cut (lv' := [(0, .ref (Z.1 84)), (1, .int a0), (2, .int a1)]) rfl ?_
  refine g_iload_n B d_X10_seen_0 rfl rfl ?_
  refine g_callS (As := [.int a1]) (rest := []) B d_X10_seen_1 (t_X10_isCell a1 σ rfl) m_X10_isCell w_WaterOthersModel_66 rfl rfl (Nat.le_of_ble_eq_true rfl) (by omega) (by decide) ?_
  refine g_if_ne (tgt := 9) B d_X10_seen_4 (by decide) h (fun h => ?_) (fun h => ?_)
  · refine g_iload_n B d_X10_seen_9 rfl rfl ?_
    refine g_iconst (v := 0) B d_X10_seen_10 (by decide) ?_
    refine g_bipush (v := 60) B d_X10_seen_11 (by decide) ?_
    refine g_callS (As := [.int a0, .int 0, .int 60]) (rest := []) B d_X10_seen_13 (t_X10_in a0 0 60 σ rfl) m_X10_in w_WaterOthersModel_55 rfl rfl (Nat.le_of_ble_eq_true rfl) (by omega) (by decide) ?_
    refine g_if_ne (tgt := 22) B d_X10_seen_16 (by decide) h (fun h => ?_) (fun h => ?_)
    · refine g_aload_n B d_X10_seen_22 rfl rfl ?_
      refine g_get (ci := 10) (k := 6) B d_X10_seen_23 q_in10 rfl (by decide) rfl (by decide) w_WaterOthersModel_155 rfl rfl ?_
      refine g_bipush (v := 8) B d_X10_seen_26 (by decide) ?_
      refine g_icmp_ne (tgt := 34) B d_X10_seen_28 (by decide) h (fun h => ?_) (fun h => ?_)
      · refine g_aload_n B d_X10_seen_34 rfl rfl ?_
        refine g_get (ci := 10) (k := 7) (v := .ref (Z.1 88)) B d_X10_seen_35 q_in10 rfl (by decide) rfl (by decide) w_WaterOthersModel_23 rfl rfl ?_
        refine g_iconst (v := 2) B d_X10_seen_38 (by decide) ?_
        refine g_aload_n B d_X10_seen_39 rfl rfl ?_
        refine g_get (ci := 10) (k := 6) B d_X10_seen_40 q_in10 rfl (by decide) rfl (by decide) w_WaterOthersModel_155 rfl rfl ?_
        refine g_imul B d_X10_seen_43 ?_
        refine g_iload_n B d_X10_seen_44 rfl rfl ?_
        obtain ⟨h45, h⟩ := q_chk h
        refine g_iast B d_X10_seen_45 (by decide) (fun _ _ => rfl) h45 ?_
        refine g_aload_n B d_X10_seen_46 rfl rfl ?_
        refine g_get (ci := 10) (k := 7) (v := .ref (Z.1 88)) B d_X10_seen_47 q_in10 rfl (by decide) rfl (by decide) w_WaterOthersModel_23 rfl rfl ?_
        refine g_iconst (v := 2) B d_X10_seen_50 (by decide) ?_
        refine g_aload_n B d_X10_seen_51 rfl rfl ?_
        refine g_get (ci := 10) (k := 6) B d_X10_seen_52 q_in10 rfl (by decide) rfl (by decide) w_WaterOthersModel_155 rfl rfl ?_
        refine g_imul B d_X10_seen_55 ?_
        refine g_iconst (v := 1) B d_X10_seen_56 (by decide) ?_
        refine g_iadd B d_X10_seen_57 ?_
        refine g_iload_n B d_X10_seen_58 rfl rfl ?_
        obtain ⟨h59, h⟩ := q_chk h
        refine g_iast B d_X10_seen_59 (by decide) (fun _ _ => rfl) h59 ?_
        refine g_aload_n B d_X10_seen_60 rfl rfl ?_
        refine g_dup B d_X10_seen_61 rfl ?_
        refine g_get (ci := 10) (k := 6) B d_X10_seen_62 q_in10 rfl (by decide) rfl (by decide) w_WaterOthersModel_155 rfl rfl ?_
        refine g_iconst (v := 1) B d_X10_seen_65 (by decide) ?_
        refine g_iadd B d_X10_seen_66 ?_
        refine g_put (ci := 10) (k := 6) (v := (((q_w (q_w σ 88 ((2 * (σ.1 84 6)) : Int32).toNatClampNeg a0) 88 (((2 * ((q_w σ 88 ((2 * (σ.1 84 6)) : Int32).toNatClampNeg a0).1 84 6)) + 1) : Int32).toNatClampNeg a1).1 84 6) + 1)) (ty := .int) B d_X10_seen_67 q_in10 rfl q_yk10 q_nm10 (by decide) (fun _ _ => rfl) (by decide) w_WaterOthersModel_155 rfl rfl rfl rfl rfl (Nat.le_of_ble_eq_true rfl) (fun _ _ => rfl) ?_
        refine g_aload_n B d_X10_seen_70 rfl rfl ?_
        refine g_get (ci := 10) (k := 6) B d_X10_seen_71 q_in10 rfl (by decide) rfl (by decide) w_WaterOthersModel_155 rfl rfl ?_
        obtain ⟨rfl, rfl⟩ := q_ps h
        exact g_iret B En d_X10_seen_74
      · refine g_bipush (v := (-4)) B d_X10_seen_31 (by decide) ?_
        obtain ⟨rfl, rfl⟩ := q_ps h
        exact g_iret B En d_X10_seen_33
    · refine g_bipush (v := (-2)) B d_X10_seen_19 (by decide) ?_
      obtain ⟨rfl, rfl⟩ := q_ps h
      exact g_iret B En d_X10_seen_21
  · refine g_iconst (v := (-1)) B d_X10_seen_7 (by decide) ?_
    obtain ⟨rfl, rfl⟩ := q_ps h
    exact g_iret B En d_X10_seen_8

def f_X10_forget  (σ : q_S) : (Int32 × q_S) :=
  ((σ.1 84 6), (q_w σ 84 6 0))
set_option maxRecDepth 20000 in
theorem t_X10_forget {Z : q_Z} {l : Launch}   (σ : q_S) {r : Int32} {σ' : q_S} (h : f_X10_forget σ = (r, σ')) : q_M Z l y_X10_forget prog_12_method_41_code 2 (some .int) 1 [.ref (Z.1 84)] σ (some (.int r)) σ' := by
  refine q_met (by decide +kernel) (Nat.le_of_ble_eq_true rfl) (fun Γ hΓ B En => ?_)
  unfold f_X10_forget at h
  refine g_cut (lv' := [(0, .ref (Z.1 84))]) rfl ?_
  refine g_aload_n B d_X10_forget_0 rfl rfl ?_
  refine g_get (ci := 10) (k := 6) B d_X10_forget_1 q_in10 rfl (by decide) rfl (by decide) w_WaterOthersModel_155 rfl rfl ?_
  refine g_istore_n B d_X10_forget_4 rfl (by decide) ?_
  refine g_aload_n B d_X10_forget_5 rfl rfl ?_
  refine g_iconst (v := 0) B d_X10_forget_6 (by decide) ?_
  refine g_put (ci := 10) (k := 6) (v := 0) (ty := .int) B d_X10_forget_7 q_in10 rfl q_yk10 q_nm10 (by decide) (fun _ _ => rfl) (by decide) w_WaterOthersModel_155 rfl rfl rfl rfl rfl (Nat.le_of_ble_eq_true rfl) (fun _ _ => rfl) ?_
  refine g_iload_n B d_X10_forget_10 rfl rfl ?_
  obtain ⟨rfl, rfl⟩ := q_pr h
  exact g_iret B En d_X10_forget_11

def f_X10_cellAt_23  (x2 : Int32)  : Int32 :=
  (q_rem ((q_rem x2 20) + 20) 20)
def f_X10_cellAt (a0 : Int32) (a1 : Int32) : Int32 :=
  f_X10_cellAt_23 ((a0 / 1000) + (((q_rem (a0 / 10) 100) - 3) * (a1 - (q_rem a0 10))))
set_option maxRecDepth 20000 in
theorem t_X10_cellAt_23 {Z : q_Z} {Γ : q_C} {σ : q_S} {r : Int32} (B : q_B Z Γ prog_12_method_42_code "WaterOthersModel" 3 1) (En : q_E Z Γ (some .int) (some (.int r)) σ)  (x2 : Int32)   (h : f_X10_cellAt_23 x2 = r) : q_G Z Γ 3 σ 23 [(2, .int x2)] [] := by
  unfold f_X10_cellAt_23 at h
  refine g_iload_n B d_X10_cellAt_23 rfl rfl ?_
  refine g_bipush (v := 20) B d_X10_cellAt_24 (by decide) ?_
  refine g_irem B d_X10_cellAt_26 (by decide) ?_
  refine g_bipush (v := 20) B d_X10_cellAt_27 (by decide) ?_
  refine g_iadd B d_X10_cellAt_29 ?_
  refine g_bipush (v := 20) B d_X10_cellAt_30 (by decide) ?_
  refine g_irem B d_X10_cellAt_32 (by decide) ?_
  subst h
  exact g_iret B En d_X10_cellAt_33
set_option maxRecDepth 20000 in
theorem t_X10_cellAt {Z : q_Z} {l : Launch} (a0 : Int32) (a1 : Int32)  (σ : q_S) {r : Int32} (h : f_X10_cellAt a0 a1 = r) : q_M Z l y_X10_cellAt prog_12_method_42_code 3 (some .int) 1 [.int a0, .int a1] σ (some (.int r)) σ := by
  refine q_met (by decide +kernel) (Nat.le_of_ble_eq_true rfl) (fun Γ hΓ B En => ?_)
  unfold f_X10_cellAt at h
  refine g_cut (lv' := [(0, .int a0), (1, .int a1)]) rfl ?_
  refine g_iload_n B d_X10_cellAt_0 rfl rfl ?_
  refine g_sipush (v := 1000) B d_X10_cellAt_1 (by decide) ?_
  refine g_idiv B d_X10_cellAt_4 (by decide) ?_
  refine g_iload_n B d_X10_cellAt_5 rfl rfl ?_
  refine g_bipush (v := 10) B d_X10_cellAt_6 (by decide) ?_
  refine g_idiv B d_X10_cellAt_8 (by decide) ?_
  refine g_bipush (v := 100) B d_X10_cellAt_9 (by decide) ?_
  refine g_irem B d_X10_cellAt_11 (by decide) ?_
  refine g_iconst (v := 3) B d_X10_cellAt_12 (by decide) ?_
  refine g_isub B d_X10_cellAt_13 ?_
  refine g_iload_n B d_X10_cellAt_14 rfl rfl ?_
  refine g_iload_n B d_X10_cellAt_15 rfl rfl ?_
  refine g_bipush (v := 10) B d_X10_cellAt_16 (by decide) ?_
  refine g_irem B d_X10_cellAt_18 (by decide) ?_
  refine g_isub B d_X10_cellAt_19 ?_
  refine g_imul B d_X10_cellAt_20 ?_
  refine g_iadd B d_X10_cellAt_21 ?_
  refine g_istore_n B d_X10_cellAt_22 rfl (by decide) ?_
  exact g_cut rfl (t_X10_cellAt_23 B En ((a0 / 1000) + (((q_rem (a0 / 10) 100) - 3) * (a1 - (q_rem a0 10)))) h)

theorem w_WaterOthersModel_158 : Cond.methodLink "WaterOthersModel" 158 y_X10_cellAt ∈ q_tbl := q_mem 916 (by decide +kernel) (by decide +kernel)
def f_X10_isFit_20 (N : Nat)  (x1 : Int32) (σ : q_S) : Nat → Int32 → Int32 → Option Int32
  | 0, _, _ => none
  | n + 1, x2, x3 =>
    if (σ.1 84 6) ≤ x3 then (if x2 = 0 ∨ x2 = 1 then some x2 else none)
    else (if x2 = 0 then (if x2 = 0 ∨ x2 = 1 then some x2 else none)
      else (if ¬ (((2 * x3) : Int32) < 0 ∨ 16 ≤ ((2 * x3) : Int32).toNatClampNeg) then if ¬ ((((2 * x3) + 1) : Int32) < 0 ∨ 16 ≤ (((2 * x3) + 1) : Int32).toNatClampNeg) then if (f_X10_cellAt x1 (σ.1 88 ((2 * x3) : Int32).toNatClampNeg)) = (σ.1 88 (((2 * x3) + 1) : Int32).toNatClampNeg) then (f_X10_isFit_20 N x1 σ n 1 (x3 + 1))
        else (f_X10_isFit_20 N x1 σ n 0 (x3 + 1)) else none else none))
def f_X10_isFit (N : Nat) (a0 : Int32) (σ : q_S) : Option Int32 :=
  if (7 : Int32) ≤ (q_rem (a0 / 10) 100) then (f_X10_isFit_20 N a0 σ N 0 0)
  else (f_X10_isFit_20 N a0 σ N 1 0)
set_option maxRecDepth 20000 in
theorem t_X10_isFit_20 {Z : q_Z} {Γ : q_C} {σ : q_S} {r : Int32} (B : q_B Z Γ prog_12_method_43_code "WaterOthersModel" 4 2) (En : q_E Z Γ (some .boolean) (some (.int r)) σ) (N : Nat)  (x1 : Int32)   : ∀ (n : Nat) (x2 : Int32) (x3 : Int32), f_X10_isFit_20 N x1 σ n x2 x3 = some r → q_G Z Γ 4 σ 20 [(0, .ref (Z.1 84)), (1, .int x1), (2, .int x2), (3, .int x3)] [] := by
  intro n
  induction n with
  | zero =>
    intro x2 x3 h
    cases h
  | succ n ih =>
    intro x2 x3 h
    unfold f_X10_isFit_20 at h
    refine g_iload_n B d_X10_isFit_20 rfl rfl ?_
    refine g_aload_n B d_X10_isFit_21 rfl rfl ?_
    refine g_get (ci := 10) (k := 6) B d_X10_isFit_22 q_in10 rfl (by decide) rfl (by decide) w_WaterOthersModel_155 rfl rfl ?_
    refine g_icmp_ge (tgt := 69) B d_X10_isFit_25 (by decide) h (fun h => ?_) (fun h => ?_)
    · refine g_iload_n B d_X10_isFit_69 rfl rfl ?_
      obtain ⟨h70, h⟩ := q_chk h
      obtain rfl := q_po h
      exact g_zret B En d_X10_isFit_70 (q_bn h70).1
    · refine g_iload_n B d_X10_isFit_28 rfl rfl ?_
      refine g_if_eq (tgt := 69) B d_X10_isFit_29 (by decide) h (fun h => ?_) (fun h => ?_)
      · refine g_iload_n B d_X10_isFit_69 rfl rfl ?_
        obtain ⟨h70, h⟩ := q_chk h
        obtain rfl := q_po h
        exact g_zret B En d_X10_isFit_70 (q_bn h70).1
      · refine g_iload_n B d_X10_isFit_32 rfl rfl ?_
        refine g_aload_n B d_X10_isFit_33 rfl rfl ?_
        refine g_get (ci := 10) (k := 7) (v := .ref (Z.1 88)) B d_X10_isFit_34 q_in10 rfl (by decide) rfl (by decide) w_WaterOthersModel_23 rfl rfl ?_
        refine g_iconst (v := 2) B d_X10_isFit_37 (by decide) ?_
        refine g_iload_n B d_X10_isFit_38 rfl rfl ?_
        refine g_imul B d_X10_isFit_39 ?_
        obtain ⟨h40, h⟩ := q_chk h
        refine g_iald B d_X10_isFit_40 (by decide) (fun _ _ => rfl) h40 ?_
        refine g_callS (As := [.int x1, .int (σ.1 88 ((2 * x3) : Int32).toNatClampNeg)]) (rest := []) B d_X10_isFit_41 (t_X10_cellAt x1 (σ.1 88 ((2 * x3) : Int32).toNatClampNeg) σ rfl) m_X10_cellAt w_WaterOthersModel_158 rfl rfl (Nat.le_of_ble_eq_true rfl) (by omega) (by decide) ?_
        refine g_aload_n B d_X10_isFit_44 rfl rfl ?_
        refine g_get (ci := 10) (k := 7) (v := .ref (Z.1 88)) B d_X10_isFit_45 q_in10 rfl (by decide) rfl (by decide) w_WaterOthersModel_23 rfl rfl ?_
        refine g_iconst (v := 2) B d_X10_isFit_48 (by decide) ?_
        refine g_iload_n B d_X10_isFit_49 rfl rfl ?_
        refine g_imul B d_X10_isFit_50 ?_
        refine g_iconst (v := 1) B d_X10_isFit_51 (by decide) ?_
        refine g_iadd B d_X10_isFit_52 ?_
        obtain ⟨h53, h⟩ := q_chk h
        refine g_iald B d_X10_isFit_53 (by decide) (fun _ _ => rfl) h53 ?_
        refine g_icmp_ne (tgt := 61) B d_X10_isFit_54 (by decide) h (fun h => ?_) (fun h => ?_)
        · refine g_iconst (v := 0) B d_X10_isFit_61 (by decide) ?_
          refine g_istore_n B d_X10_isFit_62 rfl (by decide) ?_
          refine g_iinc (v := (x3 + 1)) B d_X10_isFit_63 rfl rfl (by decide) ?_
          refine g_goto (tgt := 20) B d_X10_isFit_66 (by decide) ?_
          exact g_cut rfl (ih 0 (x3 + 1) h)
        · refine g_iconst (v := 1) B d_X10_isFit_57 (by decide) ?_
          refine g_goto (tgt := 62) B d_X10_isFit_58 (by decide) ?_
          refine g_istore_n B d_X10_isFit_62 rfl (by decide) ?_
          refine g_iinc (v := (x3 + 1)) B d_X10_isFit_63 rfl rfl (by decide) ?_
          refine g_goto (tgt := 20) B d_X10_isFit_66 (by decide) ?_
          exact g_cut rfl (ih 1 (x3 + 1) h)
set_option maxRecDepth 20000 in
theorem t_X10_isFit {Z : q_Z} {l : Launch} (N : Nat) (a0 : Int32)  (σ : q_S) {r : Int32} (h : f_X10_isFit N a0 σ = some r) : q_M Z l y_X10_isFit prog_12_method_43_code 4 (some .boolean) 2 [.ref (Z.1 84), .int a0] σ (some (.int r)) σ := by
  refine q_met (by decide +kernel) (Nat.le_of_ble_eq_true rfl) (fun Γ hΓ B En => ?_)
  unfold f_X10_isFit at h
  refine g_cut (lv' := [(0, .ref (Z.1 84)), (1, .int a0)]) rfl ?_
  refine g_iload_n B d_X10_isFit_0 rfl rfl ?_
  refine g_bipush (v := 10) B d_X10_isFit_1 (by decide) ?_
  refine g_idiv B d_X10_isFit_3 (by decide) ?_
  refine g_bipush (v := 100) B d_X10_isFit_4 (by decide) ?_
  refine g_irem B d_X10_isFit_6 (by decide) ?_
  refine g_bipush (v := 7) B d_X10_isFit_7 (by decide) ?_
  refine g_icmp_ge (tgt := 16) B d_X10_isFit_9 (by decide) h (fun h => ?_) (fun h => ?_)
  · refine g_iconst (v := 0) B d_X10_isFit_16 (by decide) ?_
    refine g_istore_n B d_X10_isFit_17 rfl (by decide) ?_
    refine g_iconst (v := 0) B d_X10_isFit_18 (by decide) ?_
    refine g_istore_n B d_X10_isFit_19 rfl (by decide) ?_
    exact g_cut rfl (t_X10_isFit_20 B En N a0 N 0 0 h)
  · refine g_iconst (v := 1) B d_X10_isFit_12 (by decide) ?_
    refine g_goto (tgt := 17) B d_X10_isFit_13 (by decide) ?_
    refine g_istore_n B d_X10_isFit_17 rfl (by decide) ?_
    refine g_iconst (v := 0) B d_X10_isFit_18 (by decide) ?_
    refine g_istore_n B d_X10_isFit_19 rfl (by decide) ?_
    exact g_cut rfl (t_X10_isFit_20 B En N a0 N 1 0 h)

theorem w_WaterOthersModel_161 : Cond.methodLink "WaterOthersModel" 161 y_X10_isFit ∈ q_tbl := q_mem 912 (by decide +kernel) (by decide +kernel)
def f_X10_fits_4 (N : Nat)  (x1 : Int32) (σ : q_S) : Nat → Int32 → Int32 → Option Int32
  | 0, _, _ => none
  | n + 1, x2, x3 =>
    if (20000 : Int32) ≤ x3 then (if x1 = (-1) then (some x2)
      else (some (-6)))
    else ((f_X10_isFit N x3 σ).bind fun z13 =>
      if z13 = 0 then (f_X10_fits_4 N x1 σ n x2 (x3 + 1))
      else (if x2 = x1 then (some x3)
        else (f_X10_fits_4 N x1 σ n (x2 + 1) (x3 + 1))))
def f_X10_fits (N : Nat) (a0 : Int32) (σ : q_S) : Option Int32 :=
  f_X10_fits_4 N a0 σ N 0 0
set_option maxRecDepth 20000 in
theorem t_X10_fits_4 {Z : q_Z} {Γ : q_C} {σ : q_S} {r : Int32} (B : q_B Z Γ prog_12_method_44_code "WaterOthersModel" 4 3) (En : q_E Z Γ (some .int) (some (.int r)) σ) (N : Nat)  (x1 : Int32)   : ∀ (n : Nat) (x2 : Int32) (x3 : Int32), f_X10_fits_4 N x1 σ n x2 x3 = some r → q_G Z Γ 4 σ 4 [(0, .ref (Z.1 84)), (1, .int x1), (2, .int x2), (3, .int x3)] [] := by
  intro n
  induction n with
  | zero =>
    intro x2 x3 h
    cases h
  | succ n ih =>
    intro x2 x3 h
    unfold f_X10_fits_4 at h
    refine g_iload_n B d_X10_fits_4 rfl rfl ?_
    refine g_sipush (v := 20000) B d_X10_fits_5 (by decide) ?_
    refine g_icmp_ge (tgt := 35) B d_X10_fits_8 (by decide) h (fun h => ?_) (fun h => ?_)
    · refine g_iload_n B d_X10_fits_35 rfl rfl ?_
      refine g_iconst (v := (-1)) B d_X10_fits_36 (by decide) ?_
      refine g_icmp_ne (tgt := 44) B d_X10_fits_37 (by decide) h (fun h => ?_) (fun h => ?_)
      · refine g_bipush (v := (-6)) B d_X10_fits_44 (by decide) ?_
        obtain rfl := q_po h
        exact g_iret B En d_X10_fits_46
      · refine g_iload_n B d_X10_fits_40 rfl rfl ?_
        refine g_goto (tgt := 46) B d_X10_fits_41 (by decide) ?_
        obtain rfl := q_po h
        exact g_iret B En d_X10_fits_46
    · refine g_aload_n B d_X10_fits_11 rfl rfl ?_
      refine g_iload_n B d_X10_fits_12 rfl rfl ?_
      obtain ⟨z13, g13, h⟩ := q_bind h
      refine g_callV (p0 := 84) (ci := 10) (As := [.int x3]) (rest := []) B d_X10_fits_13 (t_X10_isFit N x3 σ g13) m_X10_isFit w_WaterOthersModel_161 (by decide) rfl rfl rfl rfl (Nat.le_of_ble_eq_true rfl) (by omega) (by decide) ?_
      refine g_if_eq (tgt := 29) B d_X10_fits_16 (by decide) h (fun h => ?_) (fun h => ?_)
      · refine g_iinc (v := (x3 + 1)) B d_X10_fits_29 rfl rfl (by decide) ?_
        refine g_goto (tgt := 4) B d_X10_fits_32 (by decide) ?_
        exact g_cut rfl (ih x2 (x3 + 1) h)
      · refine g_iload_n B d_X10_fits_19 rfl rfl ?_
        refine g_iload_n B d_X10_fits_20 rfl rfl ?_
        refine g_icmp_ne (tgt := 26) B d_X10_fits_21 (by decide) h (fun h => ?_) (fun h => ?_)
        · refine g_iinc (v := (x2 + 1)) B d_X10_fits_26 rfl rfl (by decide) ?_
          refine g_iinc (v := (x3 + 1)) B d_X10_fits_29 rfl rfl (by decide) ?_
          refine g_goto (tgt := 4) B d_X10_fits_32 (by decide) ?_
          exact g_cut rfl (ih (x2 + 1) (x3 + 1) h)
        · refine g_iload_n B d_X10_fits_24 rfl rfl ?_
          obtain rfl := q_po h
          exact g_iret B En d_X10_fits_25
set_option maxRecDepth 20000 in
theorem t_X10_fits {Z : q_Z} {l : Launch} (N : Nat) (a0 : Int32)  (σ : q_S) {r : Int32} (h : f_X10_fits N a0 σ = some r) : q_M Z l y_X10_fits prog_12_method_44_code 4 (some .int) 3 [.ref (Z.1 84), .int a0] σ (some (.int r)) σ := by
  refine q_met (by decide +kernel) (Nat.le_of_ble_eq_true rfl) (fun Γ hΓ B En => ?_)
  unfold f_X10_fits at h
  refine g_cut (lv' := [(0, .ref (Z.1 84)), (1, .int a0)]) rfl ?_
  refine g_iconst (v := 0) B d_X10_fits_0 (by decide) ?_
  refine g_istore_n B d_X10_fits_1 rfl (by decide) ?_
  refine g_iconst (v := 0) B d_X10_fits_2 (by decide) ?_
  refine g_istore_n B d_X10_fits_3 rfl (by decide) ?_
  exact g_cut rfl (t_X10_fits_4 B En N a0 N 0 0 h)

theorem w_WaterOthersModel_35 : Cond.fieldLink "WaterOthersModel" 35 "WaterOthersModel" "fitting" "[I" ∈ q_tbl := q_mem 701 (by decide +kernel) (by decide +kernel)
theorem w_WaterOthersModel_38 : Cond.fieldLink "WaterOthersModel" 38 "WaterOthersModel" "counts" "[I" ∈ q_tbl := q_mem 702 (by decide +kernel) (by decide +kernel)
def f_X10_ask_174 (N : Nat) (k57 : Int32 → Int32 → Int32 → q_S → Option (Int32 × q_S)) (x1 : Int32) (x2 : Int32) (x4 : Int32) (x5 : Int32) (x6 : Int32) (t0 : Int32) (σ : q_S) : Option (Int32 × q_S) :=
  if x4 ≤ x6 then (k57 t0 x4 (x5 + 1) σ)
  else (k57 t0 x6 (x5 + 1) σ)
def f_X10_ask_98 (N : Nat) (k57 : Int32 → Int32 → Int32 → q_S → Option (Int32 × q_S)) (x1 : Int32) (x2 : Int32) (x3 : Int32) (x4 : Int32) (x5 : Int32)  : Nat → Int32 → Int32 → q_S → Option (Int32 × q_S)
  | 0, _, _, _ => none
  | n + 1, x6, x7, σ =>
    if x2 ≤ x7 then (if x4 ≤ x6 then (f_X10_ask_174 N (k57) x1 x2 x4 x5 x6 x3 σ)
      else (f_X10_ask_174 N (k57) x1 x2 x4 x5 x6 x5 σ))
    else (if ¬ ((x7 : Int32) < 0 ∨ 1400 ≤ (x7 : Int32).toNatClampNeg) then if ¬ (((f_X10_cellAt (σ.1 92 (x7 : Int32).toNatClampNeg) x5) : Int32) < 0 ∨ 20 ≤ ((f_X10_cellAt (σ.1 92 (x7 : Int32).toNatClampNeg) x5) : Int32).toNatClampNeg) then if ((q_w σ 93 ((f_X10_cellAt (σ.1 92 (x7 : Int32).toNatClampNeg) x5) : Int32).toNatClampNeg ((σ.1 93 ((f_X10_cellAt (σ.1 92 (x7 : Int32).toNatClampNeg) x5) : Int32).toNatClampNeg) + 1)).1 93 ((f_X10_cellAt (σ.1 92 (x7 : Int32).toNatClampNeg) x5) : Int32).toNatClampNeg) ≤ x6 then (f_X10_ask_98 N k57 x1 x2 x3 x4 x5 n x6 (x7 + 1) (q_w σ 93 ((f_X10_cellAt (σ.1 92 (x7 : Int32).toNatClampNeg) x5) : Int32).toNatClampNeg ((σ.1 93 ((f_X10_cellAt (σ.1 92 (x7 : Int32).toNatClampNeg) x5) : Int32).toNatClampNeg) + 1)))
      else (f_X10_ask_98 N k57 x1 x2 x3 x4 x5 n ((q_w σ 93 ((f_X10_cellAt (σ.1 92 (x7 : Int32).toNatClampNeg) x5) : Int32).toNatClampNeg ((σ.1 93 ((f_X10_cellAt (σ.1 92 (x7 : Int32).toNatClampNeg) x5) : Int32).toNatClampNeg) + 1)).1 93 ((f_X10_cellAt (σ.1 92 (x7 : Int32).toNatClampNeg) x5) : Int32).toNatClampNeg) (x7 + 1) (q_w σ 93 ((f_X10_cellAt (σ.1 92 (x7 : Int32).toNatClampNeg) x5) : Int32).toNatClampNeg ((σ.1 93 ((f_X10_cellAt (σ.1 92 (x7 : Int32).toNatClampNeg) x5) : Int32).toNatClampNeg) + 1))) else none else none)
def f_X10_ask_74 (N : Nat) (k57 : Int32 → Int32 → Int32 → q_S → Option (Int32 × q_S)) (x1 : Int32) (x2 : Int32) (x3 : Int32) (x4 : Int32) (x5 : Int32) (x6 : Int32)  : Nat → Int32 → q_S → Option (Int32 × q_S)
  | 0, _, _ => none
  | n + 1, x7, σ =>
    if (20 : Int32) ≤ x7 then (f_X10_ask_98 N (k57) x1 x2 x3 x4 x5 N x6 0 σ)
    else (if ¬ ((x7 : Int32) < 0 ∨ 20 ≤ (x7 : Int32).toNatClampNeg) then f_X10_ask_74 N k57 x1 x2 x3 x4 x5 x6 n (x7 + 1) (q_w σ 93 (x7 : Int32).toNatClampNeg 0) else none)
def f_X10_ask_197 (N : Nat)  (x1 : Int32) (x3 : Int32) (x4 : Int32) (σ : q_S) : Option (Int32 × q_S) :=
  if x3 < 0 then (some (x3, σ))
  else (if x1 = 0 then (some (x3, σ))
    else (some (x4, σ)))
def f_X10_ask_57 (N : Nat)  (x1 : Int32) (x2 : Int32)  : Nat → Int32 → Int32 → Int32 → q_S → Option (Int32 × q_S)
  | 0, _, _, _, _ => none
  | n + 1, x3, x4, x5, σ =>
    if (61 : Int32) ≤ x5 then (f_X10_ask_197 N x1 x3 x4 σ)
    else (if x2 ≤ 0 then (f_X10_ask_197 N x1 x3 x4 σ)
      else (f_X10_ask_74 N (fun x3 x4 x5 σ => f_X10_ask_57 N x1 x2 n x3 x4 x5 σ) x1 x2 x3 x4 x5 0 N 0 σ))
def f_X10_ask_16 (N : Nat)  (x1 : Int32)  : Nat → Int32 → Int32 → q_S → Option (Int32 × q_S)
  | 0, _, _, _ => none
  | n + 1, x2, x3, σ =>
    if (20000 : Int32) ≤ x3 then (f_X10_ask_57 N x1 x2 N (-6) 1000000 0 σ)
    else ((f_X10_isFit N x3 σ).bind fun z25 =>
      if z25 = 0 then (f_X10_ask_16 N x1 n x2 (x3 + 1) σ)
      else (if ¬ ((x2 : Int32) < 0 ∨ 1400 ≤ (x2 : Int32).toNatClampNeg) then f_X10_ask_16 N x1 n (x2 + 1) (x3 + 1) (q_w σ 92 (x2 : Int32).toNatClampNeg x3) else none))
def f_X10_ask (N : Nat) (a0 : Int32) (σ : q_S) : Option (Int32 × q_S) :=
  if (f_X10_in a0 0 1) = 0 then (some ((-2), σ))
  else (f_X10_ask_16 N a0 N 0 0 σ)
set_option maxRecDepth 20000 in
theorem t_X10_ask_174 {Z : q_Z} {Γ : q_C} {r : Int32} {σ' : q_S} (B : q_B Z Γ prog_12_method_45_code "WaterOthersModel" 9 3) (En : q_E Z Γ (some .int) (some (.int r)) σ') (N : Nat) (k57 : Int32 → Int32 → Int32 → q_S → Option (Int32 × q_S)) (x1 : Int32) (x2 : Int32) (x4 : Int32) (x5 : Int32) (x6 : Int32) (t0 : Int32) (K57 : ∀ (x3 : Int32) (x4 : Int32) (x5 : Int32) (σ : q_S), k57 x3 x4 x5 σ = some (r, σ') → q_G Z Γ 9 σ 57 [(0, .ref (Z.1 84)), (1, .int x1), (2, .int x2), (3, .int x3), (4, .int x4), (5, .int x5)] []) (σ : q_S)  (h : f_X10_ask_174 N k57 x1 x2 x4 x5 x6 t0 σ = some (r, σ')) : q_G Z Γ 9 σ 174 [(0, .ref (Z.1 84)), (1, .int x1), (2, .int x2), (4, .int x4), (5, .int x5), (6, .int x6)] [.int t0] := by
  unfold f_X10_ask_174 at h
  refine g_istore_n B d_X10_ask_174 rfl (by decide) ?_
  refine g_iload B d_X10_ask_175 rfl ?_
  refine g_iload B d_X10_ask_177 rfl ?_
  refine g_icmp_ge (tgt := 187) B d_X10_ask_179 (by decide) h (fun h => ?_) (fun h => ?_)
  · refine g_iload B d_X10_ask_187 rfl ?_
    refine g_istore B d_X10_ask_189 (by decide) ?_
    refine g_iinc (v := (x5 + 1)) B d_X10_ask_191 rfl rfl (by decide) ?_
    refine g_goto (tgt := 57) B d_X10_ask_194 (by decide) ?_
    exact g_cut rfl (K57 t0 x4 (x5 + 1) σ h)
  · refine g_iload B d_X10_ask_182 rfl ?_
    refine g_goto (tgt := 189) B d_X10_ask_184 (by decide) ?_
    refine g_istore B d_X10_ask_189 (by decide) ?_
    refine g_iinc (v := (x5 + 1)) B d_X10_ask_191 rfl rfl (by decide) ?_
    refine g_goto (tgt := 57) B d_X10_ask_194 (by decide) ?_
    exact g_cut rfl (K57 t0 x6 (x5 + 1) σ h)
set_option maxRecDepth 20000 in
theorem t_X10_ask_98 {Z : q_Z} {Γ : q_C} {r : Int32} {σ' : q_S} (B : q_B Z Γ prog_12_method_45_code "WaterOthersModel" 9 3) (En : q_E Z Γ (some .int) (some (.int r)) σ') (N : Nat) (k57 : Int32 → Int32 → Int32 → q_S → Option (Int32 × q_S)) (x1 : Int32) (x2 : Int32) (x3 : Int32) (x4 : Int32) (x5 : Int32) (K57 : ∀ (x3 : Int32) (x4 : Int32) (x5 : Int32) (σ : q_S), k57 x3 x4 x5 σ = some (r, σ') → q_G Z Γ 9 σ 57 [(0, .ref (Z.1 84)), (1, .int x1), (2, .int x2), (3, .int x3), (4, .int x4), (5, .int x5)] [])  : ∀ (n : Nat) (x6 : Int32) (x7 : Int32) (σ : q_S), f_X10_ask_98 N k57 x1 x2 x3 x4 x5 n x6 x7 σ = some (r, σ') → q_G Z Γ 9 σ 98 [(0, .ref (Z.1 84)), (1, .int x1), (2, .int x2), (3, .int x3), (4, .int x4), (5, .int x5), (6, .int x6), (7, .int x7)] [] := by
  intro n
  induction n with
  | zero =>
    intro x6 x7 σ h
    cases h
  | succ n ih =>
    intro x6 x7 σ h
    unfold f_X10_ask_98 at h
    refine g_iload B d_X10_ask_98 rfl ?_
    refine g_iload_n B d_X10_ask_100 rfl rfl ?_
    refine g_icmp_ge (tgt := 161) B d_X10_ask_101 (by decide) h (fun h => ?_) (fun h => ?_)
    · refine g_iload B d_X10_ask_161 rfl ?_
      refine g_iload B d_X10_ask_163 rfl ?_
      refine g_icmp_ge (tgt := 173) B d_X10_ask_165 (by decide) h (fun h => ?_) (fun h => ?_)
      · refine g_iload_n B d_X10_ask_173 rfl rfl ?_
        exact g_cut rfl (t_X10_ask_174 B En N (k57) x1 x2 x4 x5 x6 x3 (K57) σ h)
      · refine g_iload B d_X10_ask_168 rfl ?_
        refine g_goto (tgt := 174) B d_X10_ask_170 (by decide) ?_
        exact g_cut rfl (t_X10_ask_174 B En N (k57) x1 x2 x4 x5 x6 x5 (K57) σ h)
    · refine g_aload_n B d_X10_ask_104 rfl rfl ?_
      refine g_get (ci := 10) (k := 16) (v := .ref (Z.1 92)) B d_X10_ask_105 q_in10 rfl (by decide) rfl (by decide) w_WaterOthersModel_35 rfl rfl ?_
      refine g_iload B d_X10_ask_108 rfl ?_
      obtain ⟨h110, h⟩ := q_chk h
      refine g_iald B d_X10_ask_110 (by decide) (fun _ _ => rfl) h110 ?_
      refine g_iload B d_X10_ask_111 rfl ?_
      refine g_callS (As := [.int (σ.1 92 (x7 : Int32).toNatClampNeg), .int x5]) (rest := []) B d_X10_ask_113 (t_X10_cellAt (σ.1 92 (x7 : Int32).toNatClampNeg) x5 σ rfl) m_X10_cellAt w_WaterOthersModel_158 rfl rfl (Nat.le_of_ble_eq_true rfl) (by omega) (by decide) ?_
      refine g_istore B d_X10_ask_116 (by decide) ?_
      refine g_aload_n B d_X10_ask_118 rfl rfl ?_
      refine g_get (ci := 10) (k := 17) (v := .ref (Z.1 93)) B d_X10_ask_119 q_in10 rfl (by decide) rfl (by decide) w_WaterOthersModel_38 rfl rfl ?_
      refine g_iload B d_X10_ask_122 rfl ?_
      refine g_dup2 B d_X10_ask_124 rfl rfl ?_
      obtain ⟨h125, h⟩ := q_chk h
      refine g_iald B d_X10_ask_125 (by decide) (fun _ _ => rfl) h125 ?_
      refine g_iconst (v := 1) B d_X10_ask_126 (by decide) ?_
      refine g_iadd B d_X10_ask_127 ?_
      refine g_iast B d_X10_ask_128 (by decide) (fun _ _ => rfl) h125 ?_
      refine g_aload_n B d_X10_ask_129 rfl rfl ?_
      refine g_get (ci := 10) (k := 17) (v := .ref (Z.1 93)) B d_X10_ask_130 q_in10 rfl (by decide) rfl (by decide) w_WaterOthersModel_38 rfl rfl ?_
      refine g_iload B d_X10_ask_133 rfl ?_
      refine g_iald B d_X10_ask_135 (by decide) (fun _ _ => rfl) h125 ?_
      refine g_iload B d_X10_ask_136 rfl ?_
      refine g_icmp_le (tgt := 151) B d_X10_ask_138 (by decide) h (fun h => ?_) (fun h => ?_)
      · refine g_iload B d_X10_ask_151 rfl ?_
        refine g_istore B d_X10_ask_153 (by decide) ?_
        refine g_iinc (v := (x7 + 1)) B d_X10_ask_155 rfl rfl (by decide) ?_
        refine g_goto (tgt := 98) B d_X10_ask_158 (by decide) ?_
        exact g_cut rfl (ih x6 (x7 + 1) (q_w σ 93 ((f_X10_cellAt (σ.1 92 (x7 : Int32).toNatClampNeg) x5) : Int32).toNatClampNeg ((σ.1 93 ((f_X10_cellAt (σ.1 92 (x7 : Int32).toNatClampNeg) x5) : Int32).toNatClampNeg) + 1)) h)
      · refine g_aload_n B d_X10_ask_141 rfl rfl ?_
        refine g_get (ci := 10) (k := 17) (v := .ref (Z.1 93)) B d_X10_ask_142 q_in10 rfl (by decide) rfl (by decide) w_WaterOthersModel_38 rfl rfl ?_
        refine g_iload B d_X10_ask_145 rfl ?_
        refine g_iald B d_X10_ask_147 (by decide) (fun _ _ => rfl) h125 ?_
        refine g_goto (tgt := 153) B d_X10_ask_148 (by decide) ?_
        refine g_istore B d_X10_ask_153 (by decide) ?_
        refine g_iinc (v := (x7 + 1)) B d_X10_ask_155 rfl rfl (by decide) ?_
        refine g_goto (tgt := 98) B d_X10_ask_158 (by decide) ?_
        exact g_cut rfl (ih ((q_w σ 93 ((f_X10_cellAt (σ.1 92 (x7 : Int32).toNatClampNeg) x5) : Int32).toNatClampNeg ((σ.1 93 ((f_X10_cellAt (σ.1 92 (x7 : Int32).toNatClampNeg) x5) : Int32).toNatClampNeg) + 1)).1 93 ((f_X10_cellAt (σ.1 92 (x7 : Int32).toNatClampNeg) x5) : Int32).toNatClampNeg) (x7 + 1) (q_w σ 93 ((f_X10_cellAt (σ.1 92 (x7 : Int32).toNatClampNeg) x5) : Int32).toNatClampNeg ((σ.1 93 ((f_X10_cellAt (σ.1 92 (x7 : Int32).toNatClampNeg) x5) : Int32).toNatClampNeg) + 1)) h)
set_option maxRecDepth 20000 in
theorem t_X10_ask_74 {Z : q_Z} {Γ : q_C} {r : Int32} {σ' : q_S} (B : q_B Z Γ prog_12_method_45_code "WaterOthersModel" 9 3) (En : q_E Z Γ (some .int) (some (.int r)) σ') (N : Nat) (k57 : Int32 → Int32 → Int32 → q_S → Option (Int32 × q_S)) (x1 : Int32) (x2 : Int32) (x3 : Int32) (x4 : Int32) (x5 : Int32) (x6 : Int32) (K57 : ∀ (x3 : Int32) (x4 : Int32) (x5 : Int32) (σ : q_S), k57 x3 x4 x5 σ = some (r, σ') → q_G Z Γ 9 σ 57 [(0, .ref (Z.1 84)), (1, .int x1), (2, .int x2), (3, .int x3), (4, .int x4), (5, .int x5)] [])  : ∀ (n : Nat) (x7 : Int32) (σ : q_S), f_X10_ask_74 N k57 x1 x2 x3 x4 x5 x6 n x7 σ = some (r, σ') → q_G Z Γ 9 σ 74 [(0, .ref (Z.1 84)), (1, .int x1), (2, .int x2), (3, .int x3), (4, .int x4), (5, .int x5), (6, .int x6), (7, .int x7)] [] := by
  intro n
  induction n with
  | zero =>
    intro x7 σ h
    cases h
  | succ n ih =>
    intro x7 σ h
    unfold f_X10_ask_74 at h
    refine g_iload B d_X10_ask_74 rfl ?_
    refine g_bipush (v := 20) B d_X10_ask_76 (by decide) ?_
    refine g_icmp_ge (tgt := 95) B d_X10_ask_78 (by decide) h (fun h => ?_) (fun h => ?_)
    · refine g_iconst (v := 0) B d_X10_ask_95 (by decide) ?_
      refine g_istore B d_X10_ask_96 (by decide) ?_
      exact g_cut rfl (t_X10_ask_98 B En N (k57) x1 x2 x3 x4 x5 (K57) N x6 0 σ h)
    · refine g_aload_n B d_X10_ask_81 rfl rfl ?_
      refine g_get (ci := 10) (k := 17) (v := .ref (Z.1 93)) B d_X10_ask_82 q_in10 rfl (by decide) rfl (by decide) w_WaterOthersModel_38 rfl rfl ?_
      refine g_iload B d_X10_ask_85 rfl ?_
      refine g_iconst (v := 0) B d_X10_ask_87 (by decide) ?_
      obtain ⟨h88, h⟩ := q_chk h
      refine g_iast B d_X10_ask_88 (by decide) (fun _ _ => rfl) h88 ?_
      refine g_iinc (v := (x7 + 1)) B d_X10_ask_89 rfl rfl (by decide) ?_
      refine g_goto (tgt := 74) B d_X10_ask_92 (by decide) ?_
      exact g_cut rfl (ih (x7 + 1) (q_w σ 93 (x7 : Int32).toNatClampNeg 0) h)
set_option maxRecDepth 20000 in
theorem t_X10_ask_197 {Z : q_Z} {Γ : q_C} {r : Int32} {σ' : q_S} (B : q_B Z Γ prog_12_method_45_code "WaterOthersModel" 9 3) (En : q_E Z Γ (some .int) (some (.int r)) σ') (N : Nat)  (x1 : Int32) (x3 : Int32) (x4 : Int32)  (σ : q_S)  (h : f_X10_ask_197 N x1 x3 x4 σ = some (r, σ')) : q_G Z Γ 9 σ 197 [(1, .int x1), (3, .int x3), (4, .int x4)] [] := by
  unfold f_X10_ask_197 at h
  refine g_iload_n B d_X10_ask_197 rfl rfl ?_
  refine g_if_lt (tgt := 205) B d_X10_ask_198 (by decide) h (fun h => ?_) (fun h => ?_)
  · refine g_iload_n B d_X10_ask_205 rfl rfl ?_
    refine g_goto (tgt := 211) B d_X10_ask_206 (by decide) ?_
    obtain ⟨rfl, rfl⟩ := q_ps h
    exact g_iret B En d_X10_ask_211
  · refine g_iload_n B d_X10_ask_201 rfl rfl ?_
    refine g_if_ne (tgt := 209) B d_X10_ask_202 (by decide) h (fun h => ?_) (fun h => ?_)
    · refine g_iload B d_X10_ask_209 rfl ?_
      obtain ⟨rfl, rfl⟩ := q_ps h
      exact g_iret B En d_X10_ask_211
    · refine g_iload_n B d_X10_ask_205 rfl rfl ?_
      refine g_goto (tgt := 211) B d_X10_ask_206 (by decide) ?_
      obtain ⟨rfl, rfl⟩ := q_ps h
      exact g_iret B En d_X10_ask_211
set_option maxRecDepth 20000 in
theorem t_X10_ask_57 {Z : q_Z} {Γ : q_C} {r : Int32} {σ' : q_S} (B : q_B Z Γ prog_12_method_45_code "WaterOthersModel" 9 3) (En : q_E Z Γ (some .int) (some (.int r)) σ') (N : Nat)  (x1 : Int32) (x2 : Int32)   : ∀ (n : Nat) (x3 : Int32) (x4 : Int32) (x5 : Int32) (σ : q_S), f_X10_ask_57 N x1 x2 n x3 x4 x5 σ = some (r, σ') → q_G Z Γ 9 σ 57 [(0, .ref (Z.1 84)), (1, .int x1), (2, .int x2), (3, .int x3), (4, .int x4), (5, .int x5)] [] := by
  intro n
  induction n with
  | zero =>
    intro x3 x4 x5 σ h
    cases h
  | succ n ih =>
    intro x3 x4 x5 σ h
    unfold f_X10_ask_57 at h
    refine g_iload B d_X10_ask_57 rfl ?_
    refine g_bipush (v := 61) B d_X10_ask_59 (by decide) ?_
    refine g_icmp_ge (tgt := 197) B d_X10_ask_61 (by decide) h (fun h => ?_) (fun h => ?_)
    · exact g_cut rfl (t_X10_ask_197 B En N x1 x3 x4 σ h)
    · refine g_iload_n B d_X10_ask_64 rfl rfl ?_
      refine g_if_le (tgt := 197) B d_X10_ask_65 (by decide) h (fun h => ?_) (fun h => ?_)
      · exact g_cut rfl (t_X10_ask_197 B En N x1 x3 x4 σ h)
      · refine g_iconst (v := 0) B d_X10_ask_68 (by decide) ?_
        refine g_istore B d_X10_ask_69 (by decide) ?_
        refine g_iconst (v := 0) B d_X10_ask_71 (by decide) ?_
        refine g_istore B d_X10_ask_72 (by decide) ?_
        exact g_cut rfl (t_X10_ask_74 B En N (fun x3 x4 x5 σ => f_X10_ask_57 N x1 x2 n x3 x4 x5 σ) x1 x2 x3 x4 x5 0 (ih) N 0 σ h)
set_option maxRecDepth 20000 in
theorem t_X10_ask_16 {Z : q_Z} {Γ : q_C} {r : Int32} {σ' : q_S} (B : q_B Z Γ prog_12_method_45_code "WaterOthersModel" 9 3) (En : q_E Z Γ (some .int) (some (.int r)) σ') (N : Nat)  (x1 : Int32)   : ∀ (n : Nat) (x2 : Int32) (x3 : Int32) (σ : q_S), f_X10_ask_16 N x1 n x2 x3 σ = some (r, σ') → q_G Z Γ 9 σ 16 [(0, .ref (Z.1 84)), (1, .int x1), (2, .int x2), (3, .int x3)] [] := by
  intro n
  induction n with
  | zero =>
    intro x2 x3 σ h
    cases h
  | succ n ih =>
    intro x2 x3 σ h
    unfold f_X10_ask_16 at h
    refine g_iload_n B d_X10_ask_16 rfl rfl ?_
    refine g_sipush (v := 20000) B d_X10_ask_17 (by decide) ?_
    refine g_icmp_ge (tgt := 47) B d_X10_ask_20 (by decide) h (fun h => ?_) (fun h => ?_)
    · refine g_bipush (v := (-6)) B d_X10_ask_47 (by decide) ?_
      refine g_istore_n B d_X10_ask_49 rfl (by decide) ?_
      refine g_ldc (v := 1000000) B d_X10_ask_50 k_w_WaterOthersModel_154 ?_
      refine g_istore B d_X10_ask_52 (by decide) ?_
      refine g_iconst (v := 0) B d_X10_ask_54 (by decide) ?_
      refine g_istore B d_X10_ask_55 (by decide) ?_
      exact g_cut rfl (t_X10_ask_57 B En N x1 x2 N (-6) 1000000 0 σ h)
    · refine g_aload_n B d_X10_ask_23 rfl rfl ?_
      refine g_iload_n B d_X10_ask_24 rfl rfl ?_
      obtain ⟨z25, g25, h⟩ := q_bind h
      refine g_callV (p0 := 84) (ci := 10) (As := [.int x3]) (rest := []) B d_X10_ask_25 (t_X10_isFit N x3 σ g25) m_X10_isFit w_WaterOthersModel_161 (by decide) rfl rfl rfl rfl (Nat.le_of_ble_eq_true rfl) (by omega) (by decide) ?_
      refine g_if_eq (tgt := 41) B d_X10_ask_28 (by decide) h (fun h => ?_) (fun h => ?_)
      · refine g_iinc (v := (x3 + 1)) B d_X10_ask_41 rfl rfl (by decide) ?_
        refine g_goto (tgt := 16) B d_X10_ask_44 (by decide) ?_
        exact g_cut rfl (ih x2 (x3 + 1) σ h)
      · refine g_aload_n B d_X10_ask_31 rfl rfl ?_
        refine g_get (ci := 10) (k := 16) (v := .ref (Z.1 92)) B d_X10_ask_32 q_in10 rfl (by decide) rfl (by decide) w_WaterOthersModel_35 rfl rfl ?_
        refine g_iload_n B d_X10_ask_35 rfl rfl ?_
        refine g_iload_n B d_X10_ask_36 rfl rfl ?_
        obtain ⟨h37, h⟩ := q_chk h
        refine g_iast B d_X10_ask_37 (by decide) (fun _ _ => rfl) h37 ?_
        refine g_iinc (v := (x2 + 1)) B d_X10_ask_38 rfl rfl (by decide) ?_
        refine g_iinc (v := (x3 + 1)) B d_X10_ask_41 rfl rfl (by decide) ?_
        refine g_goto (tgt := 16) B d_X10_ask_44 (by decide) ?_
        exact g_cut rfl (ih (x2 + 1) (x3 + 1) (q_w σ 92 (x2 : Int32).toNatClampNeg x3) h)
set_option maxRecDepth 20000 in
theorem t_X10_ask {Z : q_Z} {l : Launch} (N : Nat) (a0 : Int32)  (σ : q_S) {r : Int32} {σ' : q_S} (h : f_X10_ask N a0 σ = some (r, σ')) : q_M Z l y_X10_ask prog_12_method_45_code 9 (some .int) 3 [.ref (Z.1 84), .int a0] σ (some (.int r)) σ' := by
  refine q_met (by decide +kernel) (Nat.le_of_ble_eq_true rfl) (fun Γ hΓ B En => ?_)
  unfold f_X10_ask at h
  refine g_cut (lv' := [(0, .ref (Z.1 84)), (1, .int a0)]) rfl ?_
  refine g_iload_n B d_X10_ask_0 rfl rfl ?_
  refine g_iconst (v := 0) B d_X10_ask_1 (by decide) ?_
  refine g_iconst (v := 1) B d_X10_ask_2 (by decide) ?_
  refine g_callS (As := [.int a0, .int 0, .int 1]) (rest := []) B d_X10_ask_3 (t_X10_in a0 0 1 σ rfl) m_X10_in w_WaterOthersModel_55 rfl rfl (Nat.le_of_ble_eq_true rfl) (by omega) (by decide) ?_
  refine g_if_ne (tgt := 12) B d_X10_ask_6 (by decide) h (fun h => ?_) (fun h => ?_)
  · refine g_iconst (v := 0) B d_X10_ask_12 (by decide) ?_
    refine g_istore_n B d_X10_ask_13 rfl (by decide) ?_
    refine g_iconst (v := 0) B d_X10_ask_14 (by decide) ?_
    refine g_istore_n B d_X10_ask_15 rfl (by decide) ?_
    exact g_cut rfl (t_X10_ask_16 B En N a0 N 0 0 σ h)
  · refine g_bipush (v := (-2)) B d_X10_ask_9 (by decide) ?_
    obtain ⟨rfl, rfl⟩ := q_ps h
    exact g_iret B En d_X10_ask_11

def f_X10_wins_25 (N : Nat)    : Nat → Int32 → Int32 → Int32 → Option Int32
  | 0, _, _, _ => none
  | n + 1, x2, x3, x4 =>
    if x3 ≤ 0 then (if x4 = 0 then (some 1)
      else (some 0))
    else (if ¬ x3 = 0 then if (1 : Int32) < (x2 / x3) then (if x4 = 0 ∨ x4 = 1 then some x4 else none)
      else (if x2 = x3 then (if x4 = 0 ∨ x4 = 1 then some x4 else none)
        else (if x4 = 0 then (f_X10_wins_25 N n x3 (x2 - x3) 1)
          else (f_X10_wins_25 N n x3 (x2 - x3) 0))) else none)
def f_X10_wins_10 (N : Nat)  (x0 : Int32) (x1 : Int32) (t0 : Int32)  : Option Int32 :=
  if x0 ≤ x1 then (f_X10_wins_25 N N t0 x0 1)
  else (f_X10_wins_25 N N t0 x1 1)
def f_X10_wins (N : Nat) (a0 : Int32) (a1 : Int32) : Option Int32 :=
  if a0 ≤ a1 then (f_X10_wins_10 N a0 a1 a1)
  else (f_X10_wins_10 N a0 a1 a0)
set_option maxRecDepth 20000 in
theorem t_X10_wins_25 {Z : q_Z} {Γ : q_C} {σ : q_S} {r : Int32} (B : q_B Z Γ prog_12_method_46_code "WaterOthersModel" 6 1) (En : q_E Z Γ (some .boolean) (some (.int r)) σ) (N : Nat)     : ∀ (n : Nat) (x2 : Int32) (x3 : Int32) (x4 : Int32), f_X10_wins_25 N n x2 x3 x4 = some r → q_G Z Γ 6 σ 25 [(2, .int x2), (3, .int x3), (4, .int x4)] [] := by
  intro n
  induction n with
  | zero =>
    intro x2 x3 x4 h
    cases h
  | succ n ih =>
    intro x2 x3 x4 h
    unfold f_X10_wins_25 at h
    refine g_iload_n B d_X10_wins_25 rfl rfl ?_
    refine g_if_le (tgt := 69) B d_X10_wins_26 (by decide) h (fun h => ?_) (fun h => ?_)
    · refine g_iload B d_X10_wins_69 rfl ?_
      refine g_if_ne (tgt := 78) B d_X10_wins_71 (by decide) h (fun h => ?_) (fun h => ?_)
      · refine g_iconst (v := 0) B d_X10_wins_78 (by decide) ?_
        obtain rfl := q_po h
        exact g_zret B En d_X10_wins_79 (by decide)
      · refine g_iconst (v := 1) B d_X10_wins_74 (by decide) ?_
        refine g_goto (tgt := 79) B d_X10_wins_75 (by decide) ?_
        obtain rfl := q_po h
        exact g_zret B En d_X10_wins_79 (by decide)
    · refine g_iload_n B d_X10_wins_29 rfl rfl ?_
      refine g_iload_n B d_X10_wins_30 rfl rfl ?_
      obtain ⟨h31, h⟩ := q_chk h
      refine g_idiv B d_X10_wins_31 h31 ?_
      refine g_iconst (v := 1) B d_X10_wins_32 (by decide) ?_
      refine g_icmp_gt (tgt := 41) B d_X10_wins_33 (by decide) h (fun h => ?_) (fun h => ?_)
      · refine g_iload B d_X10_wins_41 rfl ?_
        obtain ⟨h43, h⟩ := q_chk h
        obtain rfl := q_po h
        exact g_zret B En d_X10_wins_43 (q_bn h43).1
      · refine g_iload_n B d_X10_wins_36 rfl rfl ?_
        refine g_iload_n B d_X10_wins_37 rfl rfl ?_
        refine g_icmp_ne (tgt := 44) B d_X10_wins_38 (by decide) h (fun h => ?_) (fun h => ?_)
        · refine g_iload_n B d_X10_wins_44 rfl rfl ?_
          refine g_iload_n B d_X10_wins_45 rfl rfl ?_
          refine g_isub B d_X10_wins_46 ?_
          refine g_istore B d_X10_wins_47 (by decide) ?_
          refine g_iload_n B d_X10_wins_49 rfl rfl ?_
          refine g_istore_n B d_X10_wins_50 rfl (by decide) ?_
          refine g_iload B d_X10_wins_51 rfl ?_
          refine g_istore_n B d_X10_wins_53 rfl (by decide) ?_
          refine g_iload B d_X10_wins_54 rfl ?_
          refine g_if_ne (tgt := 63) B d_X10_wins_56 (by decide) h (fun h => ?_) (fun h => ?_)
          · refine g_iconst (v := 0) B d_X10_wins_63 (by decide) ?_
            refine g_istore B d_X10_wins_64 (by decide) ?_
            refine g_goto (tgt := 25) B d_X10_wins_66 (by decide) ?_
            exact g_cut rfl (ih x3 (x2 - x3) 0 h)
          · refine g_iconst (v := 1) B d_X10_wins_59 (by decide) ?_
            refine g_goto (tgt := 64) B d_X10_wins_60 (by decide) ?_
            refine g_istore B d_X10_wins_64 (by decide) ?_
            refine g_goto (tgt := 25) B d_X10_wins_66 (by decide) ?_
            exact g_cut rfl (ih x3 (x2 - x3) 1 h)
        · refine g_iload B d_X10_wins_41 rfl ?_
          obtain ⟨h43, h⟩ := q_chk h
          obtain rfl := q_po h
          exact g_zret B En d_X10_wins_43 (q_bn h43).1
set_option maxRecDepth 20000 in
theorem t_X10_wins_10 {Z : q_Z} {Γ : q_C} {σ : q_S} {r : Int32} (B : q_B Z Γ prog_12_method_46_code "WaterOthersModel" 6 1) (En : q_E Z Γ (some .boolean) (some (.int r)) σ) (N : Nat)  (x0 : Int32) (x1 : Int32) (t0 : Int32)   (h : f_X10_wins_10 N x0 x1 t0 = some r) : q_G Z Γ 6 σ 10 [(0, .int x0), (1, .int x1)] [.int t0] := by
  unfold f_X10_wins_10 at h
  refine g_istore_n B d_X10_wins_10 rfl (by decide) ?_
  refine g_iload_n B d_X10_wins_11 rfl rfl ?_
  refine g_iload_n B d_X10_wins_12 rfl rfl ?_
  refine g_icmp_le (tgt := 20) B d_X10_wins_13 (by decide) h (fun h => ?_) (fun h => ?_)
  · refine g_iload_n B d_X10_wins_20 rfl rfl ?_
    refine g_istore_n B d_X10_wins_21 rfl (by decide) ?_
    refine g_iconst (v := 1) B d_X10_wins_22 (by decide) ?_
    refine g_istore B d_X10_wins_23 (by decide) ?_
    exact g_cut rfl (t_X10_wins_25 B En N N t0 x0 1 h)
  · refine g_iload_n B d_X10_wins_16 rfl rfl ?_
    refine g_goto (tgt := 21) B d_X10_wins_17 (by decide) ?_
    refine g_istore_n B d_X10_wins_21 rfl (by decide) ?_
    refine g_iconst (v := 1) B d_X10_wins_22 (by decide) ?_
    refine g_istore B d_X10_wins_23 (by decide) ?_
    exact g_cut rfl (t_X10_wins_25 B En N N t0 x1 1 h)
set_option maxRecDepth 20000 in
theorem t_X10_wins {Z : q_Z} {l : Launch} (N : Nat) (a0 : Int32) (a1 : Int32)  (σ : q_S) {r : Int32} (h : f_X10_wins N a0 a1 = some r) : q_M Z l y_X10_wins prog_12_method_46_code 6 (some .boolean) 1 [.int a0, .int a1] σ (some (.int r)) σ := by
  refine q_met (by decide +kernel) (Nat.le_of_ble_eq_true rfl) (fun Γ hΓ B En => ?_)
  unfold f_X10_wins at h
  refine g_cut (lv' := [(0, .int a0), (1, .int a1)]) rfl ?_
  refine g_iload_n B d_X10_wins_0 rfl rfl ?_
  refine g_iload_n B d_X10_wins_1 rfl rfl ?_
  refine g_icmp_le (tgt := 9) B d_X10_wins_2 (by decide) h (fun h => ?_) (fun h => ?_)
  · refine g_iload_n B d_X10_wins_9 rfl rfl ?_
    exact g_cut rfl (t_X10_wins_10 B En N a0 a1 a1 h)
  · refine g_iload_n B d_X10_wins_5 rfl rfl ?_
    refine g_goto (tgt := 10) B d_X10_wins_6 (by decide) ?_
    exact g_cut rfl (t_X10_wins_10 B En N a0 a1 a0 h)

theorem w_WaterOthersModel_164 : Cond.methodLink "WaterOthersModel" 164 y_X10_wins ∈ q_tbl := q_mem 927 (by decide +kernel) (by decide +kernel)
def f_X10_lengths_76 (N : Nat)  (x3 : Int32) (x4 : Int32) (x5 : Int32)  : Nat → Int32 → Int32 → Option Int32
  | 0, _, _ => none
  | n + 1, x6, x7 =>
    if x7 ≤ 0 then (if x3 = 1 then (some x6)
      else (if (0 : Int32) ≤ x6 then (some 1)
        else (some 0)))
    else (if (x4 - (x7 * x5)) = 0 then (f_X10_lengths_76 N x3 x4 x5 n x7 (x7 + (-1)))
      else ((f_X10_wins N (x4 - (x7 * x5)) x5).bind fun z100 =>
        if z100 = 0 then (f_X10_lengths_76 N x3 x4 x5 n x7 (x7 + (-1)))
        else (f_X10_lengths_76 N x3 x4 x5 n x6 (x7 + (-1)))))
def f_X10_lengths_54 (N : Nat)  (x3 : Int32) (x4 : Int32) (t0 : Int32)  : Option Int32 :=
  if t0 = 0 then (f_X10_lengths_76 N x3 x4 t0 N (-6) 0)
  else (if ¬ t0 = 0 then f_X10_lengths_76 N x3 x4 t0 N (-6) (x4 / t0) else none)
def f_X10_lengths (N : Nat) (a0 : Int32) (a1 : Int32) (a2 : Int32) : Option Int32 :=
  if (f_X10_in a0 0 99) = 0 then (some (-2))
  else (if (f_X10_in a1 0 99) = 0 then (some (-2))
    else (if (f_X10_in a2 0 1) = 0 then (some (-2))
      else (if a0 ≤ a1 then (if a0 ≤ a1 then (f_X10_lengths_54 N a2 a1 a0)
          else (f_X10_lengths_54 N a2 a1 a1))
        else (if a0 ≤ a1 then (f_X10_lengths_54 N a2 a0 a0)
          else (f_X10_lengths_54 N a2 a0 a1)))))
set_option maxRecDepth 20000 in
theorem t_X10_lengths_76 {Z : q_Z} {Γ : q_C} {σ : q_S} {r : Int32} (B : q_B Z Γ prog_12_method_47_code "WaterOthersModel" 9 2) (En : q_E Z Γ (some .int) (some (.int r)) σ) (N : Nat)  (x3 : Int32) (x4 : Int32) (x5 : Int32)   : ∀ (n : Nat) (x6 : Int32) (x7 : Int32), f_X10_lengths_76 N x3 x4 x5 n x6 x7 = some r → q_G Z Γ 9 σ 76 [(3, .int x3), (4, .int x4), (5, .int x5), (6, .int x6), (7, .int x7)] [] := by
  intro n
  induction n with
  | zero =>
    intro x6 x7 h
    cases h
  | succ n ih =>
    intro x6 x7 h
    unfold f_X10_lengths_76 at h
    refine g_iload B d_X10_lengths_76 rfl ?_
    refine g_if_le (tgt := 121) B d_X10_lengths_78 (by decide) h (fun h => ?_) (fun h => ?_)
    · refine g_iload_n B d_X10_lengths_121 rfl rfl ?_
      refine g_iconst (v := 1) B d_X10_lengths_122 (by decide) ?_
      refine g_icmp_ne (tgt := 131) B d_X10_lengths_123 (by decide) h (fun h => ?_) (fun h => ?_)
      · refine g_iload B d_X10_lengths_131 rfl ?_
        refine g_if_ge (tgt := 140) B d_X10_lengths_133 (by decide) h (fun h => ?_) (fun h => ?_)
        · refine g_iconst (v := 1) B d_X10_lengths_140 (by decide) ?_
          obtain rfl := q_po h
          exact g_iret B En d_X10_lengths_141
        · refine g_iconst (v := 0) B d_X10_lengths_136 (by decide) ?_
          refine g_goto (tgt := 141) B d_X10_lengths_137 (by decide) ?_
          obtain rfl := q_po h
          exact g_iret B En d_X10_lengths_141
      · refine g_iload B d_X10_lengths_126 rfl ?_
        refine g_goto (tgt := 141) B d_X10_lengths_128 (by decide) ?_
        obtain rfl := q_po h
        exact g_iret B En d_X10_lengths_141
    · refine g_iload B d_X10_lengths_81 rfl ?_
      refine g_iload B d_X10_lengths_83 rfl ?_
      refine g_iload B d_X10_lengths_85 rfl ?_
      refine g_imul B d_X10_lengths_87 ?_
      refine g_isub B d_X10_lengths_88 ?_
      refine g_istore B d_X10_lengths_89 (by decide) ?_
      refine g_iload B d_X10_lengths_91 rfl ?_
      refine g_if_eq (tgt := 106) B d_X10_lengths_93 (by decide) h (fun h => ?_) (fun h => ?_)
      · refine g_iload B d_X10_lengths_106 rfl ?_
        refine g_goto (tgt := 113) B d_X10_lengths_108 (by decide) ?_
        refine g_istore B d_X10_lengths_113 (by decide) ?_
        refine g_iinc (v := (x7 + (-1))) B d_X10_lengths_115 rfl rfl (by decide) ?_
        refine g_goto (tgt := 76) B d_X10_lengths_118 (by decide) ?_
        exact g_cut rfl (ih x7 (x7 + (-1)) h)
      · refine g_iload B d_X10_lengths_96 rfl ?_
        refine g_iload B d_X10_lengths_98 rfl ?_
        obtain ⟨z100, g100, h⟩ := q_bind h
        refine g_callS (As := [.int (x4 - (x7 * x5)), .int x5]) (rest := []) B d_X10_lengths_100 (t_X10_wins N (x4 - (x7 * x5)) x5 σ g100) m_X10_wins w_WaterOthersModel_164 rfl rfl (Nat.le_of_ble_eq_true rfl) (by omega) (by decide) ?_
        refine g_if_ne (tgt := 111) B d_X10_lengths_103 (by decide) h (fun h => ?_) (fun h => ?_)
        · refine g_iload B d_X10_lengths_111 rfl ?_
          refine g_istore B d_X10_lengths_113 (by decide) ?_
          refine g_iinc (v := (x7 + (-1))) B d_X10_lengths_115 rfl rfl (by decide) ?_
          refine g_goto (tgt := 76) B d_X10_lengths_118 (by decide) ?_
          exact g_cut rfl (ih x6 (x7 + (-1)) h)
        · refine g_iload B d_X10_lengths_106 rfl ?_
          refine g_goto (tgt := 113) B d_X10_lengths_108 (by decide) ?_
          refine g_istore B d_X10_lengths_113 (by decide) ?_
          refine g_iinc (v := (x7 + (-1))) B d_X10_lengths_115 rfl rfl (by decide) ?_
          refine g_goto (tgt := 76) B d_X10_lengths_118 (by decide) ?_
          exact g_cut rfl (ih x7 (x7 + (-1)) h)
set_option maxRecDepth 20000 in
theorem t_X10_lengths_54 {Z : q_Z} {Γ : q_C} {σ : q_S} {r : Int32} (B : q_B Z Γ prog_12_method_47_code "WaterOthersModel" 9 2) (En : q_E Z Γ (some .int) (some (.int r)) σ) (N : Nat)  (x3 : Int32) (x4 : Int32) (t0 : Int32)   (h : f_X10_lengths_54 N x3 x4 t0 = some r) : q_G Z Γ 9 σ 54 [(3, .int x3), (4, .int x4)] [.int t0] := by
  unfold f_X10_lengths_54 at h
  refine g_istore B d_X10_lengths_54 (by decide) ?_
  refine g_bipush (v := (-6)) B d_X10_lengths_56 (by decide) ?_
  refine g_istore B d_X10_lengths_58 (by decide) ?_
  refine g_iload B d_X10_lengths_60 rfl ?_
  refine g_if_ne (tgt := 69) B d_X10_lengths_62 (by decide) h (fun h => ?_) (fun h => ?_)
  · refine g_iload B d_X10_lengths_69 rfl ?_
    refine g_iload B d_X10_lengths_71 rfl ?_
    obtain ⟨h73, h⟩ := q_chk h
    refine g_idiv B d_X10_lengths_73 h73 ?_
    refine g_istore B d_X10_lengths_74 (by decide) ?_
    exact g_cut rfl (t_X10_lengths_76 B En N x3 x4 t0 N (-6) (x4 / t0) h)
  · refine g_iconst (v := 0) B d_X10_lengths_65 (by decide) ?_
    refine g_goto (tgt := 74) B d_X10_lengths_66 (by decide) ?_
    refine g_istore B d_X10_lengths_74 (by decide) ?_
    exact g_cut rfl (t_X10_lengths_76 B En N x3 x4 t0 N (-6) 0 h)
set_option maxRecDepth 20000 in
theorem t_X10_lengths {Z : q_Z} {l : Launch} (N : Nat) (a0 : Int32) (a1 : Int32) (a2 : Int32)  (σ : q_S) {r : Int32} (h : f_X10_lengths N a0 a1 a2 = some r) : q_M Z l y_X10_lengths prog_12_method_47_code 9 (some .int) 2 [.ref (Z.1 84), .int a0, .int a1, .int a2] σ (some (.int r)) σ := by
  refine q_met (by decide +kernel) (Nat.le_of_ble_eq_true rfl) (fun Γ hΓ B En => ?_)
  unfold f_X10_lengths at h
  refine g_cut (lv' := [(0, .ref (Z.1 84)), (1, .int a0), (2, .int a1), (3, .int a2)]) rfl ?_
  refine g_iload_n B d_X10_lengths_0 rfl rfl ?_
  refine g_iconst (v := 0) B d_X10_lengths_1 (by decide) ?_
  refine g_bipush (v := 99) B d_X10_lengths_2 (by decide) ?_
  refine g_callS (As := [.int a0, .int 0, .int 99]) (rest := []) B d_X10_lengths_4 (t_X10_in a0 0 99 σ rfl) m_X10_in w_WaterOthersModel_55 rfl rfl (Nat.le_of_ble_eq_true rfl) (by omega) (by decide) ?_
  refine g_if_eq (tgt := 29) B d_X10_lengths_7 (by decide) h (fun h => ?_) (fun h => ?_)
  · refine g_bipush (v := (-2)) B d_X10_lengths_29 (by decide) ?_
    obtain rfl := q_po h
    exact g_iret B En d_X10_lengths_31
  · refine g_iload_n B d_X10_lengths_10 rfl rfl ?_
    refine g_iconst (v := 0) B d_X10_lengths_11 (by decide) ?_
    refine g_bipush (v := 99) B d_X10_lengths_12 (by decide) ?_
    refine g_callS (As := [.int a1, .int 0, .int 99]) (rest := []) B d_X10_lengths_14 (t_X10_in a1 0 99 σ rfl) m_X10_in w_WaterOthersModel_55 rfl rfl (Nat.le_of_ble_eq_true rfl) (by omega) (by decide) ?_
    refine g_if_eq (tgt := 29) B d_X10_lengths_17 (by decide) h (fun h => ?_) (fun h => ?_)
    · refine g_bipush (v := (-2)) B d_X10_lengths_29 (by decide) ?_
      obtain rfl := q_po h
      exact g_iret B En d_X10_lengths_31
    · refine g_iload_n B d_X10_lengths_20 rfl rfl ?_
      refine g_iconst (v := 0) B d_X10_lengths_21 (by decide) ?_
      refine g_iconst (v := 1) B d_X10_lengths_22 (by decide) ?_
      refine g_callS (As := [.int a2, .int 0, .int 1]) (rest := []) B d_X10_lengths_23 (t_X10_in a2 0 1 σ rfl) m_X10_in w_WaterOthersModel_55 rfl rfl (Nat.le_of_ble_eq_true rfl) (by omega) (by decide) ?_
      refine g_if_ne (tgt := 32) B d_X10_lengths_26 (by decide) h (fun h => ?_) (fun h => ?_)
      · refine g_iload_n B d_X10_lengths_32 rfl rfl ?_
        refine g_iload_n B d_X10_lengths_33 rfl rfl ?_
        refine g_icmp_le (tgt := 41) B d_X10_lengths_34 (by decide) h (fun h => ?_) (fun h => ?_)
        · refine g_iload_n B d_X10_lengths_41 rfl rfl ?_
          refine g_istore B d_X10_lengths_42 (by decide) ?_
          refine g_iload_n B d_X10_lengths_44 rfl rfl ?_
          refine g_iload_n B d_X10_lengths_45 rfl rfl ?_
          refine g_icmp_le (tgt := 53) B d_X10_lengths_46 (by decide) h (fun h => ?_) (fun h => ?_)
          · refine g_iload_n B d_X10_lengths_53 rfl rfl ?_
            exact g_cut rfl (t_X10_lengths_54 B En N a2 a1 a0 h)
          · refine g_iload_n B d_X10_lengths_49 rfl rfl ?_
            refine g_goto (tgt := 54) B d_X10_lengths_50 (by decide) ?_
            exact g_cut rfl (t_X10_lengths_54 B En N a2 a1 a1 h)
        · refine g_iload_n B d_X10_lengths_37 rfl rfl ?_
          refine g_goto (tgt := 42) B d_X10_lengths_38 (by decide) ?_
          refine g_istore B d_X10_lengths_42 (by decide) ?_
          refine g_iload_n B d_X10_lengths_44 rfl rfl ?_
          refine g_iload_n B d_X10_lengths_45 rfl rfl ?_
          refine g_icmp_le (tgt := 53) B d_X10_lengths_46 (by decide) h (fun h => ?_) (fun h => ?_)
          · refine g_iload_n B d_X10_lengths_53 rfl rfl ?_
            exact g_cut rfl (t_X10_lengths_54 B En N a2 a0 a0 h)
          · refine g_iload_n B d_X10_lengths_49 rfl rfl ?_
            refine g_goto (tgt := 54) B d_X10_lengths_50 (by decide) ?_
            exact g_cut rfl (t_X10_lengths_54 B En N a2 a0 a1 h)
      · refine g_bipush (v := (-2)) B d_X10_lengths_29 (by decide) ?_
        obtain rfl := q_po h
        exact g_iret B En d_X10_lengths_31

theorem k_w_WaterOthersModel_167 : Cond.constantLong "WaterOthersModel" 167 (-1000000000000000002) ∈ q_tbl := q_mem 934 (by decide +kernel) (by decide +kernel)
theorem k_w_WaterOthersModel_169 : Cond.constantLong "WaterOthersModel" 169 (10) ∈ q_tbl := q_mem 935 (by decide +kernel) (by decide +kernel)
theorem w_WaterOthersModel_41 : Cond.fieldLink "WaterOthersModel" 41 "WaterOthersModel" "ways" "[J" ∈ q_tbl := q_mem 703 (by decide +kernel) (by decide +kernel)
theorem w_WaterOthersModel_45 : Cond.fieldLink "WaterOthersModel" 45 "WaterOthersModel" "nextWays" "[J" ∈ q_tbl := q_mem 704 (by decide +kernel) (by decide +kernel)
def f_X10_calm_363 (N : Nat)  (x5 : Int32) (x6 : Int64) (x8 : Int64)  : Nat → Int64 → Int64 → q_S → Option (Int64 × q_S)
  | 0, _, _, _ => none
  | n + 1, x10, x12, σ =>
    if (lg_cmp x12 0) = 0 then (if x5 = 0 then (if ¬ x10 = 0 then some ((x8 / x10), σ) else none)
      else (if ¬ x10 = 0 then some ((x6 / x10), σ) else none))
    else (if ¬ x12 = 0 then f_X10_calm_363 N x5 x6 x8 n x12 (q_reml x10 x12) σ else none)
def f_X10_calm_293 (N : Nat)  (x3 : Int32) (x4 : Int32) (x5 : Int32) (x6 : Int64)  : Nat → Int64 → Int32 → q_S → Option (Int64 × q_S)
  | 0, _, _, _ => none
  | n + 1, x8, x10, σ =>
    if (256 : Int32) ≤ x10 then (f_X10_calm_363 N x5 x6 x8 N x8 x6 σ)
    else (if x4 = 1 then (if ¬ ((x10 : Int32) < 0 ∨ 256 ≤ (x10 : Int32).toNatClampNeg) then f_X10_calm_293 N x3 x4 x5 x6 n (x8 + ((Int32.toInt64 (x10 / 16)) * (σ.2 94 (x10 : Int32).toNatClampNeg))) (x10 + 1) σ else none)
      else (if (x10 / 16) < x3 then (f_X10_calm_293 N x3 x4 x5 x6 n (x8 + 0) (x10 + 1) σ)
        else (if ¬ ((x10 : Int32) < 0 ∨ 256 ≤ (x10 : Int32).toNatClampNeg) then f_X10_calm_293 N x3 x4 x5 x6 n (x8 + (σ.2 94 (x10 : Int32).toNatClampNeg)) (x10 + 1) σ else none)))
def f_X10_calm_188 (N : Nat) (k94 : Int64 → Int32 → q_S → Option (Int64 × q_S)) (k136 : Int32 → q_S → Option (Int64 × q_S)) (x1 : Int32) (x2 : Int32) (x3 : Int32) (x4 : Int32) (x5 : Int32) (x6 : Int64) (x8 : Int32) (x9 : Int32) (x10 : Int32) (x11 : Int32) (t0 : Int32) (σ : q_S) : Option (Int64 × q_S) :=
  if ¬ (((((16 * t0) + x11) + 1) : Int32) < 0 ∨ 256 ≤ ((((16 * t0) + x11) + 1) : Int32).toNatClampNeg) then if ¬ ((x9 : Int32) < 0 ∨ 256 ≤ (x9 : Int32).toNatClampNeg) then if ¬ (((16 * x10) : Int32) < 0 ∨ 256 ≤ ((16 * x10) : Int32).toNatClampNeg) then k136 (x9 + 1) (q_wl (q_wl σ 95 ((((16 * t0) + x11) + 1) : Int32).toNatClampNeg ((σ.2 95 ((((16 * t0) + x11) + 1) : Int32).toNatClampNeg) + ((σ.2 94 (x9 : Int32).toNatClampNeg) * (Int32.toInt64 x2)))) 95 ((16 * x10) : Int32).toNatClampNeg (((q_wl σ 95 ((((16 * t0) + x11) + 1) : Int32).toNatClampNeg ((σ.2 95 ((((16 * t0) + x11) + 1) : Int32).toNatClampNeg) + ((σ.2 94 (x9 : Int32).toNatClampNeg) * (Int32.toInt64 x2)))).2 95 ((16 * x10) : Int32).toNatClampNeg) + (((q_wl σ 95 ((((16 * t0) + x11) + 1) : Int32).toNatClampNeg ((σ.2 95 ((((16 * t0) + x11) + 1) : Int32).toNatClampNeg) + ((σ.2 94 (x9 : Int32).toNatClampNeg) * (Int32.toInt64 x2)))).2 94 (x9 : Int32).toNatClampNeg) * (Int32.toInt64 (10 - x2))))) else none else none else none
def f_X10_calm_253 (N : Nat) (k94 : Int64 → Int32 → q_S → Option (Int64 × q_S)) (x1 : Int32) (x2 : Int32) (x3 : Int32) (x4 : Int32) (x5 : Int32) (x6 : Int64) (x8 : Int32)  : Nat → Int32 → q_S → Option (Int64 × q_S)
  | 0, _, _ => none
  | n + 1, x9, σ =>
    if (256 : Int32) ≤ x9 then (k94 x6 (x8 + 1) σ)
    else (if ¬ ((x9 : Int32) < 0 ∨ 256 ≤ (x9 : Int32).toNatClampNeg) then f_X10_calm_253 N k94 x1 x2 x3 x4 x5 x6 x8 n (x9 + 1) (q_wl σ 94 (x9 : Int32).toNatClampNeg (σ.2 95 (x9 : Int32).toNatClampNeg)) else none)
def f_X10_calm_136 (N : Nat) (k94 : Int64 → Int32 → q_S → Option (Int64 × q_S)) (x1 : Int32) (x2 : Int32) (x3 : Int32) (x4 : Int32) (x5 : Int32) (x6 : Int64) (x8 : Int32)  : Nat → Int32 → q_S → Option (Int64 × q_S)
  | 0, _, _ => none
  | n + 1, x9, σ =>
    if (256 : Int32) ≤ x9 then (f_X10_calm_253 N (k94) x1 x2 x3 x4 x5 x6 x8 N 0 σ)
    else (if ¬ ((x9 : Int32) < 0 ∨ 256 ≤ (x9 : Int32).toNatClampNeg) then if (lg_cmp (σ.2 94 (x9 : Int32).toNatClampNeg) 0) ≤ 0 then (f_X10_calm_136 N k94 x1 x2 x3 x4 x5 x6 x8 n (x9 + 1) σ)
      else (if ((q_rem x9 16) + 1) ≤ (x9 / 16) then (f_X10_calm_188 N (k94) (fun x9 σ => f_X10_calm_136 N k94 x1 x2 x3 x4 x5 x6 x8 n x9 σ) x1 x2 x3 x4 x5 x6 x8 x9 (x9 / 16) (q_rem x9 16) (x9 / 16) σ)
        else (f_X10_calm_188 N (k94) (fun x9 σ => f_X10_calm_136 N k94 x1 x2 x3 x4 x5 x6 x8 n x9 σ) x1 x2 x3 x4 x5 x6 x8 x9 (x9 / 16) (q_rem x9 16) ((q_rem x9 16) + 1) σ)) else none)
def f_X10_calm_111 (N : Nat) (k94 : Int64 → Int32 → q_S → Option (Int64 × q_S)) (x1 : Int32) (x2 : Int32) (x3 : Int32) (x4 : Int32) (x5 : Int32) (x6 : Int64) (x8 : Int32)  : Nat → Int32 → q_S → Option (Int64 × q_S)
  | 0, _, _ => none
  | n + 1, x9, σ =>
    if (256 : Int32) ≤ x9 then (f_X10_calm_136 N (k94) x1 x2 x3 x4 x5 x6 x8 N 0 σ)
    else (if ¬ ((x9 : Int32) < 0 ∨ 256 ≤ (x9 : Int32).toNatClampNeg) then f_X10_calm_111 N k94 x1 x2 x3 x4 x5 x6 x8 n (x9 + 1) (q_wl σ 95 (x9 : Int32).toNatClampNeg 0) else none)
def f_X10_calm_94 (N : Nat)  (x1 : Int32) (x2 : Int32) (x3 : Int32) (x4 : Int32) (x5 : Int32)  : Nat → Int64 → Int32 → q_S → Option (Int64 × q_S)
  | 0, _, _, _ => none
  | n + 1, x6, x8, σ =>
    if x1 ≤ x8 then (f_X10_calm_293 N x3 x4 x5 x6 N 0 0 σ)
    else (f_X10_calm_111 N (fun x6 x8 σ => f_X10_calm_94 N x1 x2 x3 x4 x5 n x6 x8 σ) x1 x2 x3 x4 x5 (x6 * 10) x8 N 0 σ)
def f_X10_calm_60 (N : Nat)  (x1 : Int32) (x2 : Int32) (x3 : Int32) (x4 : Int32) (x5 : Int32) (x6 : Int64)  : Nat → Int32 → q_S → Option (Int64 × q_S)
  | 0, _, _ => none
  | n + 1, x8, σ =>
    if (256 : Int32) ≤ x8 then (f_X10_calm_94 N x1 x2 x3 x4 x5 N x6 0 σ)
    else (if x8 = 0 then (if ¬ ((x8 : Int32) < 0 ∨ 256 ≤ (x8 : Int32).toNatClampNeg) then f_X10_calm_60 N x1 x2 x3 x4 x5 x6 n (x8 + 1) (q_wl σ 94 (x8 : Int32).toNatClampNeg 1) else none)
      else (if ¬ ((x8 : Int32) < 0 ∨ 256 ≤ (x8 : Int32).toNatClampNeg) then f_X10_calm_60 N x1 x2 x3 x4 x5 x6 n (x8 + 1) (q_wl σ 94 (x8 : Int32).toNatClampNeg 0) else none))
def f_X10_calm (N : Nat) (a0 : Int32) (a1 : Int32) (a2 : Int32) (a3 : Int32) (a4 : Int32) (σ : q_S) : Option (Int64 × q_S) :=
  if (f_X10_in a0 0 15) = 0 then (some ((-1000000000000000002), σ))
  else (if (f_X10_in a1 0 10) = 0 then (some ((-1000000000000000002), σ))
    else (if (f_X10_in a2 0 15) = 0 then (some ((-1000000000000000002), σ))
      else (if (f_X10_in a3 0 1) = 0 then (some ((-1000000000000000002), σ))
        else (if (f_X10_in a4 0 1) = 0 then (some ((-1000000000000000002), σ))
          else (f_X10_calm_60 N a0 a1 a2 a3 a4 1 N 0 σ)))))
set_option maxRecDepth 20000 in
theorem t_X10_calm_363 {Z : q_Z} {Γ : q_C} {r : Int64} {σ' : q_S} (B : q_B Z Γ prog_12_method_48_code "WaterOthersModel" 16 2) (En : q_E Z Γ (some .long) (some (.long r)) σ') (N : Nat)  (x5 : Int32) (x6 : Int64) (x8 : Int64)   : ∀ (n : Nat) (x10 : Int64) (x12 : Int64) (σ : q_S), f_X10_calm_363 N x5 x6 x8 n x10 x12 σ = some (r, σ') → q_G Z Γ 16 σ 363 [(5, .int x5), (6, .long x6), (8, .long x8), (10, .long x10), (12, .long x12)] [] := by
  intro n
  induction n with
  | zero =>
    intro x10 x12 σ h
    cases h
  | succ n ih =>
    intro x10 x12 σ h
    unfold f_X10_calm_363 at h
    refine g_lload B d_X10_calm_363 rfl ?_
    refine g_lconst (v := 0) B d_X10_calm_365 (by decide) ?_
    refine g_lcmp B d_X10_calm_366 ?_
    refine g_if_eq (tgt := 388) B d_X10_calm_367 (by decide) h (fun h => ?_) (fun h => ?_)
    · refine g_iload B d_X10_calm_388 rfl ?_
      refine g_if_ne (tgt := 401) B d_X10_calm_390 (by decide) h (fun h => ?_) (fun h => ?_)
      · refine g_lload B d_X10_calm_401 rfl ?_
        refine g_lload B d_X10_calm_403 rfl ?_
        obtain ⟨h405, h⟩ := q_chk h
        refine g_ldiv B d_X10_calm_405 h405 ?_
        obtain ⟨rfl, rfl⟩ := q_ps h
        exact g_lret B En d_X10_calm_406
      · refine g_lload B d_X10_calm_393 rfl ?_
        refine g_lload B d_X10_calm_395 rfl ?_
        obtain ⟨h397, h⟩ := q_chk h
        refine g_ldiv B d_X10_calm_397 h397 ?_
        refine g_goto (tgt := 406) B d_X10_calm_398 (by decide) ?_
        obtain ⟨rfl, rfl⟩ := q_ps h
        exact g_lret B En d_X10_calm_406
    · refine g_lload B d_X10_calm_370 rfl ?_
      refine g_lload B d_X10_calm_372 rfl ?_
      obtain ⟨h374, h⟩ := q_chk h
      refine g_lrem B d_X10_calm_374 h374 ?_
      refine g_lstore B d_X10_calm_375 (by decide) ?_
      refine g_lload B d_X10_calm_377 rfl ?_
      refine g_lstore B d_X10_calm_379 (by decide) ?_
      refine g_lload B d_X10_calm_381 rfl ?_
      refine g_lstore B d_X10_calm_383 (by decide) ?_
      refine g_goto (tgt := 363) B d_X10_calm_385 (by decide) ?_
      exact g_cut rfl (ih x12 (q_reml x10 x12) σ h)
set_option maxRecDepth 20000 in
theorem t_X10_calm_293 {Z : q_Z} {Γ : q_C} {r : Int64} {σ' : q_S} (B : q_B Z Γ prog_12_method_48_code "WaterOthersModel" 16 2) (En : q_E Z Γ (some .long) (some (.long r)) σ') (N : Nat)  (x3 : Int32) (x4 : Int32) (x5 : Int32) (x6 : Int64)   : ∀ (n : Nat) (x8 : Int64) (x10 : Int32) (σ : q_S), f_X10_calm_293 N x3 x4 x5 x6 n x8 x10 σ = some (r, σ') → q_G Z Γ 16 σ 293 [(0, .ref (Z.1 84)), (3, .int x3), (4, .int x4), (5, .int x5), (6, .long x6), (8, .long x8), (10, .int x10)] [] := by
  intro n
  induction n with
  | zero =>
    intro x8 x10 σ h
    cases h
  | succ n ih =>
    intro x8 x10 σ h
    unfold f_X10_calm_293 at h
    refine g_iload B d_X10_calm_293 rfl ?_
    refine g_sipush (v := 256) B d_X10_calm_295 (by decide) ?_
    refine g_icmp_ge (tgt := 355) B d_X10_calm_298 (by decide) h (fun h => ?_) (fun h => ?_)
    · refine g_lload B d_X10_calm_355 rfl ?_
      refine g_lstore B d_X10_calm_357 (by decide) ?_
      refine g_lload B d_X10_calm_359 rfl ?_
      refine g_lstore B d_X10_calm_361 (by decide) ?_
      exact g_cut rfl (t_X10_calm_363 B En N x5 x6 x8 N x8 x6 σ h)
    · refine g_lload B d_X10_calm_301 rfl ?_
      refine g_iload B d_X10_calm_303 rfl ?_
      refine g_iconst (v := 1) B d_X10_calm_305 (by decide) ?_
      refine g_icmp_ne (tgt := 326) B d_X10_calm_306 (by decide) h (fun h => ?_) (fun h => ?_)
      · refine g_iload B d_X10_calm_326 rfl ?_
        refine g_bipush (v := 16) B d_X10_calm_328 (by decide) ?_
        refine g_idiv B d_X10_calm_330 (by decide) ?_
        refine g_iload_n B d_X10_calm_331 rfl rfl ?_
        refine g_icmp_lt (tgt := 345) B d_X10_calm_332 (by decide) h (fun h => ?_) (fun h => ?_)
        · refine g_lconst (v := 0) B d_X10_calm_345 (by decide) ?_
          refine g_ladd B d_X10_calm_346 ?_
          refine g_lstore B d_X10_calm_347 (by decide) ?_
          refine g_iinc (v := (x10 + 1)) B d_X10_calm_349 rfl rfl (by decide) ?_
          refine g_goto (tgt := 293) B d_X10_calm_352 (by decide) ?_
          exact g_cut rfl (ih (x8 + 0) (x10 + 1) σ h)
        · refine g_aload_n B d_X10_calm_335 rfl rfl ?_
          refine g_get (ci := 10) (k := 18) (v := .ref (Z.1 94)) B d_X10_calm_336 q_in10 rfl (by decide) rfl (by decide) w_WaterOthersModel_41 rfl rfl ?_
          refine g_iload B d_X10_calm_339 rfl ?_
          obtain ⟨h341, h⟩ := q_chk h
          refine g_lald B d_X10_calm_341 (by decide) (fun _ _ => rfl) h341 ?_
          refine g_goto (tgt := 346) B d_X10_calm_342 (by decide) ?_
          refine g_ladd B d_X10_calm_346 ?_
          refine g_lstore B d_X10_calm_347 (by decide) ?_
          refine g_iinc (v := (x10 + 1)) B d_X10_calm_349 rfl rfl (by decide) ?_
          refine g_goto (tgt := 293) B d_X10_calm_352 (by decide) ?_
          exact g_cut rfl (ih (x8 + (σ.2 94 (x10 : Int32).toNatClampNeg)) (x10 + 1) σ h)
      · refine g_iload B d_X10_calm_309 rfl ?_
        refine g_bipush (v := 16) B d_X10_calm_311 (by decide) ?_
        refine g_idiv B d_X10_calm_313 (by decide) ?_
        refine g_i2l B d_X10_calm_314 ?_
        refine g_aload_n B d_X10_calm_315 rfl rfl ?_
        refine g_get (ci := 10) (k := 18) (v := .ref (Z.1 94)) B d_X10_calm_316 q_in10 rfl (by decide) rfl (by decide) w_WaterOthersModel_41 rfl rfl ?_
        refine g_iload B d_X10_calm_319 rfl ?_
        obtain ⟨h321, h⟩ := q_chk h
        refine g_lald B d_X10_calm_321 (by decide) (fun _ _ => rfl) h321 ?_
        refine g_lmul B d_X10_calm_322 ?_
        refine g_goto (tgt := 346) B d_X10_calm_323 (by decide) ?_
        refine g_ladd B d_X10_calm_346 ?_
        refine g_lstore B d_X10_calm_347 (by decide) ?_
        refine g_iinc (v := (x10 + 1)) B d_X10_calm_349 rfl rfl (by decide) ?_
        refine g_goto (tgt := 293) B d_X10_calm_352 (by decide) ?_
        exact g_cut rfl (ih (x8 + ((Int32.toInt64 (x10 / 16)) * (σ.2 94 (x10 : Int32).toNatClampNeg))) (x10 + 1) σ h)
set_option maxRecDepth 20000 in
theorem t_X10_calm_188 {Z : q_Z} {Γ : q_C} {r : Int64} {σ' : q_S} (B : q_B Z Γ prog_12_method_48_code "WaterOthersModel" 16 2) (En : q_E Z Γ (some .long) (some (.long r)) σ') (N : Nat) (k94 : Int64 → Int32 → q_S → Option (Int64 × q_S)) (k136 : Int32 → q_S → Option (Int64 × q_S)) (x1 : Int32) (x2 : Int32) (x3 : Int32) (x4 : Int32) (x5 : Int32) (x6 : Int64) (x8 : Int32) (x9 : Int32) (x10 : Int32) (x11 : Int32) (t0 : Int32) (K94 : ∀ (x6 : Int64) (x8 : Int32) (σ : q_S), k94 x6 x8 σ = some (r, σ') → q_G Z Γ 16 σ 94 [(0, .ref (Z.1 84)), (1, .int x1), (2, .int x2), (3, .int x3), (4, .int x4), (5, .int x5), (6, .long x6), (8, .int x8)] []) (K136 : ∀ (x9 : Int32) (σ : q_S), k136 x9 σ = some (r, σ') → q_G Z Γ 16 σ 136 [(0, .ref (Z.1 84)), (1, .int x1), (2, .int x2), (3, .int x3), (4, .int x4), (5, .int x5), (6, .long x6), (8, .int x8), (9, .int x9)] []) (σ : q_S)  (h : f_X10_calm_188 N k94 k136 x1 x2 x3 x4 x5 x6 x8 x9 x10 x11 t0 σ = some (r, σ')) : q_G Z Γ 16 σ 188 [(0, .ref (Z.1 84)), (1, .int x1), (2, .int x2), (3, .int x3), (4, .int x4), (5, .int x5), (6, .long x6), (8, .int x8), (9, .int x9), (10, .int x10), (11, .int x11)] [.int t0] := by
  unfold f_X10_calm_188 at h
  refine g_istore B d_X10_calm_188 (by decide) ?_
  refine g_aload_n B d_X10_calm_190 rfl rfl ?_
  refine g_get (ci := 10) (k := 19) (v := .ref (Z.1 95)) B d_X10_calm_191 q_in10 rfl (by decide) rfl (by decide) w_WaterOthersModel_45 rfl rfl ?_
  refine g_bipush (v := 16) B d_X10_calm_194 (by decide) ?_
  refine g_iload B d_X10_calm_196 rfl ?_
  refine g_imul B d_X10_calm_198 ?_
  refine g_iload B d_X10_calm_199 rfl ?_
  refine g_iadd B d_X10_calm_201 ?_
  refine g_iconst (v := 1) B d_X10_calm_202 (by decide) ?_
  refine g_iadd B d_X10_calm_203 ?_
  refine g_dup2 B d_X10_calm_204 rfl rfl ?_
  obtain ⟨h205, h⟩ := q_chk h
  refine g_lald B d_X10_calm_205 (by decide) (fun _ _ => rfl) h205 ?_
  refine g_aload_n B d_X10_calm_206 rfl rfl ?_
  refine g_get (ci := 10) (k := 18) (v := .ref (Z.1 94)) B d_X10_calm_207 q_in10 rfl (by decide) rfl (by decide) w_WaterOthersModel_41 rfl rfl ?_
  refine g_iload B d_X10_calm_210 rfl ?_
  obtain ⟨h212, h⟩ := q_chk h
  refine g_lald B d_X10_calm_212 (by decide) (fun _ _ => rfl) h212 ?_
  refine g_iload_n B d_X10_calm_213 rfl rfl ?_
  refine g_i2l B d_X10_calm_214 ?_
  refine g_lmul B d_X10_calm_215 ?_
  refine g_ladd B d_X10_calm_216 ?_
  refine g_last B d_X10_calm_217 (by decide) (fun _ _ => rfl) h205 ?_
  refine g_aload_n B d_X10_calm_218 rfl rfl ?_
  refine g_get (ci := 10) (k := 19) (v := .ref (Z.1 95)) B d_X10_calm_219 q_in10 rfl (by decide) rfl (by decide) w_WaterOthersModel_45 rfl rfl ?_
  refine g_bipush (v := 16) B d_X10_calm_222 (by decide) ?_
  refine g_iload B d_X10_calm_224 rfl ?_
  refine g_imul B d_X10_calm_226 ?_
  refine g_dup2 B d_X10_calm_227 rfl rfl ?_
  obtain ⟨h228, h⟩ := q_chk h
  refine g_lald B d_X10_calm_228 (by decide) (fun _ _ => rfl) h228 ?_
  refine g_aload_n B d_X10_calm_229 rfl rfl ?_
  refine g_get (ci := 10) (k := 18) (v := .ref (Z.1 94)) B d_X10_calm_230 q_in10 rfl (by decide) rfl (by decide) w_WaterOthersModel_41 rfl rfl ?_
  refine g_iload B d_X10_calm_233 rfl ?_
  refine g_lald B d_X10_calm_235 (by decide) (fun _ _ => rfl) h212 ?_
  refine g_bipush (v := 10) B d_X10_calm_236 (by decide) ?_
  refine g_iload_n B d_X10_calm_238 rfl rfl ?_
  refine g_isub B d_X10_calm_239 ?_
  refine g_i2l B d_X10_calm_240 ?_
  refine g_lmul B d_X10_calm_241 ?_
  refine g_ladd B d_X10_calm_242 ?_
  refine g_last B d_X10_calm_243 (by decide) (fun _ _ => rfl) h228 ?_
  refine g_iinc (v := (x9 + 1)) B d_X10_calm_244 rfl rfl (by decide) ?_
  refine g_goto (tgt := 136) B d_X10_calm_247 (by decide) ?_
  exact g_cut rfl (K136 (x9 + 1) (q_wl (q_wl σ 95 ((((16 * t0) + x11) + 1) : Int32).toNatClampNeg ((σ.2 95 ((((16 * t0) + x11) + 1) : Int32).toNatClampNeg) + ((σ.2 94 (x9 : Int32).toNatClampNeg) * (Int32.toInt64 x2)))) 95 ((16 * x10) : Int32).toNatClampNeg (((q_wl σ 95 ((((16 * t0) + x11) + 1) : Int32).toNatClampNeg ((σ.2 95 ((((16 * t0) + x11) + 1) : Int32).toNatClampNeg) + ((σ.2 94 (x9 : Int32).toNatClampNeg) * (Int32.toInt64 x2)))).2 95 ((16 * x10) : Int32).toNatClampNeg) + (((q_wl σ 95 ((((16 * t0) + x11) + 1) : Int32).toNatClampNeg ((σ.2 95 ((((16 * t0) + x11) + 1) : Int32).toNatClampNeg) + ((σ.2 94 (x9 : Int32).toNatClampNeg) * (Int32.toInt64 x2)))).2 94 (x9 : Int32).toNatClampNeg) * (Int32.toInt64 (10 - x2))))) h)
set_option maxRecDepth 20000 in
theorem t_X10_calm_253 {Z : q_Z} {Γ : q_C} {r : Int64} {σ' : q_S} (B : q_B Z Γ prog_12_method_48_code "WaterOthersModel" 16 2) (En : q_E Z Γ (some .long) (some (.long r)) σ') (N : Nat) (k94 : Int64 → Int32 → q_S → Option (Int64 × q_S)) (x1 : Int32) (x2 : Int32) (x3 : Int32) (x4 : Int32) (x5 : Int32) (x6 : Int64) (x8 : Int32) (K94 : ∀ (x6 : Int64) (x8 : Int32) (σ : q_S), k94 x6 x8 σ = some (r, σ') → q_G Z Γ 16 σ 94 [(0, .ref (Z.1 84)), (1, .int x1), (2, .int x2), (3, .int x3), (4, .int x4), (5, .int x5), (6, .long x6), (8, .int x8)] [])  : ∀ (n : Nat) (x9 : Int32) (σ : q_S), f_X10_calm_253 N k94 x1 x2 x3 x4 x5 x6 x8 n x9 σ = some (r, σ') → q_G Z Γ 16 σ 253 [(0, .ref (Z.1 84)), (1, .int x1), (2, .int x2), (3, .int x3), (4, .int x4), (5, .int x5), (6, .long x6), (8, .int x8), (9, .int x9)] [] := by
  intro n
  induction n with
  | zero =>
    intro x9 σ h
    cases h
  | succ n ih =>
    intro x9 σ h
    unfold f_X10_calm_253 at h
    refine g_iload B d_X10_calm_253 rfl ?_
    refine g_sipush (v := 256) B d_X10_calm_255 (by decide) ?_
    refine g_icmp_ge (tgt := 281) B d_X10_calm_258 (by decide) h (fun h => ?_) (fun h => ?_)
    · refine g_iinc (v := (x8 + 1)) B d_X10_calm_281 rfl rfl (by decide) ?_
      refine g_goto (tgt := 94) B d_X10_calm_284 (by decide) ?_
      exact g_cut rfl (K94 x6 (x8 + 1) σ h)
    · refine g_aload_n B d_X10_calm_261 rfl rfl ?_
      refine g_get (ci := 10) (k := 18) (v := .ref (Z.1 94)) B d_X10_calm_262 q_in10 rfl (by decide) rfl (by decide) w_WaterOthersModel_41 rfl rfl ?_
      refine g_iload B d_X10_calm_265 rfl ?_
      refine g_aload_n B d_X10_calm_267 rfl rfl ?_
      refine g_get (ci := 10) (k := 19) (v := .ref (Z.1 95)) B d_X10_calm_268 q_in10 rfl (by decide) rfl (by decide) w_WaterOthersModel_45 rfl rfl ?_
      refine g_iload B d_X10_calm_271 rfl ?_
      obtain ⟨h273, h⟩ := q_chk h
      refine g_lald B d_X10_calm_273 (by decide) (fun _ _ => rfl) h273 ?_
      refine g_last B d_X10_calm_274 (by decide) (fun _ _ => rfl) h273 ?_
      refine g_iinc (v := (x9 + 1)) B d_X10_calm_275 rfl rfl (by decide) ?_
      refine g_goto (tgt := 253) B d_X10_calm_278 (by decide) ?_
      exact g_cut rfl (ih (x9 + 1) (q_wl σ 94 (x9 : Int32).toNatClampNeg (σ.2 95 (x9 : Int32).toNatClampNeg)) h)
set_option maxRecDepth 20000 in
theorem t_X10_calm_136 {Z : q_Z} {Γ : q_C} {r : Int64} {σ' : q_S} (B : q_B Z Γ prog_12_method_48_code "WaterOthersModel" 16 2) (En : q_E Z Γ (some .long) (some (.long r)) σ') (N : Nat) (k94 : Int64 → Int32 → q_S → Option (Int64 × q_S)) (x1 : Int32) (x2 : Int32) (x3 : Int32) (x4 : Int32) (x5 : Int32) (x6 : Int64) (x8 : Int32) (K94 : ∀ (x6 : Int64) (x8 : Int32) (σ : q_S), k94 x6 x8 σ = some (r, σ') → q_G Z Γ 16 σ 94 [(0, .ref (Z.1 84)), (1, .int x1), (2, .int x2), (3, .int x3), (4, .int x4), (5, .int x5), (6, .long x6), (8, .int x8)] [])  : ∀ (n : Nat) (x9 : Int32) (σ : q_S), f_X10_calm_136 N k94 x1 x2 x3 x4 x5 x6 x8 n x9 σ = some (r, σ') → q_G Z Γ 16 σ 136 [(0, .ref (Z.1 84)), (1, .int x1), (2, .int x2), (3, .int x3), (4, .int x4), (5, .int x5), (6, .long x6), (8, .int x8), (9, .int x9)] [] := by
  intro n
  induction n with
  | zero =>
    intro x9 σ h
    cases h
  | succ n ih =>
    intro x9 σ h
    unfold f_X10_calm_136 at h
    refine g_iload B d_X10_calm_136 rfl ?_
    refine g_sipush (v := 256) B d_X10_calm_138 (by decide) ?_
    refine g_icmp_ge (tgt := 250) B d_X10_calm_141 (by decide) h (fun h => ?_) (fun h => ?_)
    · refine g_iconst (v := 0) B d_X10_calm_250 (by decide) ?_
      refine g_istore B d_X10_calm_251 (by decide) ?_
      exact g_cut rfl (t_X10_calm_253 B En N (k94) x1 x2 x3 x4 x5 x6 x8 (K94) N 0 σ h)
    · refine g_iload B d_X10_calm_144 rfl ?_
      refine g_bipush (v := 16) B d_X10_calm_146 (by decide) ?_
      refine g_idiv B d_X10_calm_148 (by decide) ?_
      refine g_istore B d_X10_calm_149 (by decide) ?_
      refine g_iload B d_X10_calm_151 rfl ?_
      refine g_bipush (v := 16) B d_X10_calm_153 (by decide) ?_
      refine g_irem B d_X10_calm_155 (by decide) ?_
      refine g_istore B d_X10_calm_156 (by decide) ?_
      refine g_aload_n B d_X10_calm_158 rfl rfl ?_
      refine g_get (ci := 10) (k := 18) (v := .ref (Z.1 94)) B d_X10_calm_159 q_in10 rfl (by decide) rfl (by decide) w_WaterOthersModel_41 rfl rfl ?_
      refine g_iload B d_X10_calm_162 rfl ?_
      obtain ⟨h164, h⟩ := q_chk h
      refine g_lald B d_X10_calm_164 (by decide) (fun _ _ => rfl) h164 ?_
      refine g_lconst (v := 0) B d_X10_calm_165 (by decide) ?_
      refine g_lcmp B d_X10_calm_166 ?_
      refine g_if_le (tgt := 244) B d_X10_calm_167 (by decide) h (fun h => ?_) (fun h => ?_)
      · refine g_iinc (v := (x9 + 1)) B d_X10_calm_244 rfl rfl (by decide) ?_
        refine g_goto (tgt := 136) B d_X10_calm_247 (by decide) ?_
        exact g_cut rfl (ih (x9 + 1) σ h)
      · refine g_iload B d_X10_calm_170 rfl ?_
        refine g_iconst (v := 1) B d_X10_calm_172 (by decide) ?_
        refine g_iadd B d_X10_calm_173 ?_
        refine g_iload B d_X10_calm_174 rfl ?_
        refine g_icmp_le (tgt := 186) B d_X10_calm_176 (by decide) h (fun h => ?_) (fun h => ?_)
        · refine g_iload B d_X10_calm_186 rfl ?_
          exact g_cut rfl (t_X10_calm_188 B En N (k94) (fun x9 σ => f_X10_calm_136 N k94 x1 x2 x3 x4 x5 x6 x8 n x9 σ) x1 x2 x3 x4 x5 x6 x8 x9 (x9 / 16) (q_rem x9 16) (x9 / 16) (K94) (ih) σ h)
        · refine g_iload B d_X10_calm_179 rfl ?_
          refine g_iconst (v := 1) B d_X10_calm_181 (by decide) ?_
          refine g_iadd B d_X10_calm_182 ?_
          refine g_goto (tgt := 188) B d_X10_calm_183 (by decide) ?_
          exact g_cut rfl (t_X10_calm_188 B En N (k94) (fun x9 σ => f_X10_calm_136 N k94 x1 x2 x3 x4 x5 x6 x8 n x9 σ) x1 x2 x3 x4 x5 x6 x8 x9 (x9 / 16) (q_rem x9 16) ((q_rem x9 16) + 1) (K94) (ih) σ h)
set_option maxRecDepth 20000 in
theorem t_X10_calm_111 {Z : q_Z} {Γ : q_C} {r : Int64} {σ' : q_S} (B : q_B Z Γ prog_12_method_48_code "WaterOthersModel" 16 2) (En : q_E Z Γ (some .long) (some (.long r)) σ') (N : Nat) (k94 : Int64 → Int32 → q_S → Option (Int64 × q_S)) (x1 : Int32) (x2 : Int32) (x3 : Int32) (x4 : Int32) (x5 : Int32) (x6 : Int64) (x8 : Int32) (K94 : ∀ (x6 : Int64) (x8 : Int32) (σ : q_S), k94 x6 x8 σ = some (r, σ') → q_G Z Γ 16 σ 94 [(0, .ref (Z.1 84)), (1, .int x1), (2, .int x2), (3, .int x3), (4, .int x4), (5, .int x5), (6, .long x6), (8, .int x8)] [])  : ∀ (n : Nat) (x9 : Int32) (σ : q_S), f_X10_calm_111 N k94 x1 x2 x3 x4 x5 x6 x8 n x9 σ = some (r, σ') → q_G Z Γ 16 σ 111 [(0, .ref (Z.1 84)), (1, .int x1), (2, .int x2), (3, .int x3), (4, .int x4), (5, .int x5), (6, .long x6), (8, .int x8), (9, .int x9)] [] := by
  intro n
  induction n with
  | zero =>
    intro x9 σ h
    cases h
  | succ n ih =>
    intro x9 σ h
    unfold f_X10_calm_111 at h
    refine g_iload B d_X10_calm_111 rfl ?_
    refine g_sipush (v := 256) B d_X10_calm_113 (by decide) ?_
    refine g_icmp_ge (tgt := 133) B d_X10_calm_116 (by decide) h (fun h => ?_) (fun h => ?_)
    · refine g_iconst (v := 0) B d_X10_calm_133 (by decide) ?_
      refine g_istore B d_X10_calm_134 (by decide) ?_
      exact g_cut rfl (t_X10_calm_136 B En N (k94) x1 x2 x3 x4 x5 x6 x8 (K94) N 0 σ h)
    · refine g_aload_n B d_X10_calm_119 rfl rfl ?_
      refine g_get (ci := 10) (k := 19) (v := .ref (Z.1 95)) B d_X10_calm_120 q_in10 rfl (by decide) rfl (by decide) w_WaterOthersModel_45 rfl rfl ?_
      refine g_iload B d_X10_calm_123 rfl ?_
      refine g_lconst (v := 0) B d_X10_calm_125 (by decide) ?_
      obtain ⟨h126, h⟩ := q_chk h
      refine g_last B d_X10_calm_126 (by decide) (fun _ _ => rfl) h126 ?_
      refine g_iinc (v := (x9 + 1)) B d_X10_calm_127 rfl rfl (by decide) ?_
      refine g_goto (tgt := 111) B d_X10_calm_130 (by decide) ?_
      exact g_cut rfl (ih (x9 + 1) (q_wl σ 95 (x9 : Int32).toNatClampNeg 0) h)
set_option maxRecDepth 20000 in
theorem t_X10_calm_94 {Z : q_Z} {Γ : q_C} {r : Int64} {σ' : q_S} (B : q_B Z Γ prog_12_method_48_code "WaterOthersModel" 16 2) (En : q_E Z Γ (some .long) (some (.long r)) σ') (N : Nat)  (x1 : Int32) (x2 : Int32) (x3 : Int32) (x4 : Int32) (x5 : Int32)   : ∀ (n : Nat) (x6 : Int64) (x8 : Int32) (σ : q_S), f_X10_calm_94 N x1 x2 x3 x4 x5 n x6 x8 σ = some (r, σ') → q_G Z Γ 16 σ 94 [(0, .ref (Z.1 84)), (1, .int x1), (2, .int x2), (3, .int x3), (4, .int x4), (5, .int x5), (6, .long x6), (8, .int x8)] [] := by
  intro n
  induction n with
  | zero =>
    intro x6 x8 σ h
    cases h
  | succ n ih =>
    intro x6 x8 σ h
    unfold f_X10_calm_94 at h
    refine g_iload B d_X10_calm_94 rfl ?_
    refine g_iload_n B d_X10_calm_96 rfl rfl ?_
    refine g_icmp_ge (tgt := 287) B d_X10_calm_97 (by decide) h (fun h => ?_) (fun h => ?_)
    · refine g_lconst (v := 0) B d_X10_calm_287 (by decide) ?_
      refine g_lstore B d_X10_calm_288 (by decide) ?_
      refine g_iconst (v := 0) B d_X10_calm_290 (by decide) ?_
      refine g_istore B d_X10_calm_291 (by decide) ?_
      exact g_cut rfl (t_X10_calm_293 B En N x3 x4 x5 x6 N 0 0 σ h)
    · refine g_lload B d_X10_calm_100 rfl ?_
      refine g_ldc2 (v := 10) B d_X10_calm_102 k_w_WaterOthersModel_169 ?_
      refine g_lmul B d_X10_calm_105 ?_
      refine g_lstore B d_X10_calm_106 (by decide) ?_
      refine g_iconst (v := 0) B d_X10_calm_108 (by decide) ?_
      refine g_istore B d_X10_calm_109 (by decide) ?_
      exact g_cut rfl (t_X10_calm_111 B En N (fun x6 x8 σ => f_X10_calm_94 N x1 x2 x3 x4 x5 n x6 x8 σ) x1 x2 x3 x4 x5 (x6 * 10) x8 (ih) N 0 σ h)
set_option maxRecDepth 20000 in
theorem t_X10_calm_60 {Z : q_Z} {Γ : q_C} {r : Int64} {σ' : q_S} (B : q_B Z Γ prog_12_method_48_code "WaterOthersModel" 16 2) (En : q_E Z Γ (some .long) (some (.long r)) σ') (N : Nat)  (x1 : Int32) (x2 : Int32) (x3 : Int32) (x4 : Int32) (x5 : Int32) (x6 : Int64)   : ∀ (n : Nat) (x8 : Int32) (σ : q_S), f_X10_calm_60 N x1 x2 x3 x4 x5 x6 n x8 σ = some (r, σ') → q_G Z Γ 16 σ 60 [(0, .ref (Z.1 84)), (1, .int x1), (2, .int x2), (3, .int x3), (4, .int x4), (5, .int x5), (6, .long x6), (8, .int x8)] [] := by
  intro n
  induction n with
  | zero =>
    intro x8 σ h
    cases h
  | succ n ih =>
    intro x8 σ h
    unfold f_X10_calm_60 at h
    refine g_iload B d_X10_calm_60 rfl ?_
    refine g_sipush (v := 256) B d_X10_calm_62 (by decide) ?_
    refine g_icmp_ge (tgt := 91) B d_X10_calm_65 (by decide) h (fun h => ?_) (fun h => ?_)
    · refine g_iconst (v := 0) B d_X10_calm_91 (by decide) ?_
      refine g_istore B d_X10_calm_92 (by decide) ?_
      exact g_cut rfl (t_X10_calm_94 B En N x1 x2 x3 x4 x5 N x6 0 σ h)
    · refine g_aload_n B d_X10_calm_68 rfl rfl ?_
      refine g_get (ci := 10) (k := 18) (v := .ref (Z.1 94)) B d_X10_calm_69 q_in10 rfl (by decide) rfl (by decide) w_WaterOthersModel_41 rfl rfl ?_
      refine g_iload B d_X10_calm_72 rfl ?_
      refine g_iload B d_X10_calm_74 rfl ?_
      refine g_if_ne (tgt := 83) B d_X10_calm_76 (by decide) h (fun h => ?_) (fun h => ?_)
      · refine g_lconst (v := 0) B d_X10_calm_83 (by decide) ?_
        obtain ⟨h84, h⟩ := q_chk h
        refine g_last B d_X10_calm_84 (by decide) (fun _ _ => rfl) h84 ?_
        refine g_iinc (v := (x8 + 1)) B d_X10_calm_85 rfl rfl (by decide) ?_
        refine g_goto (tgt := 60) B d_X10_calm_88 (by decide) ?_
        exact g_cut rfl (ih (x8 + 1) (q_wl σ 94 (x8 : Int32).toNatClampNeg 0) h)
      · refine g_lconst (v := 1) B d_X10_calm_79 (by decide) ?_
        refine g_goto (tgt := 84) B d_X10_calm_80 (by decide) ?_
        obtain ⟨h84, h⟩ := q_chk h
        refine g_last B d_X10_calm_84 (by decide) (fun _ _ => rfl) h84 ?_
        refine g_iinc (v := (x8 + 1)) B d_X10_calm_85 rfl rfl (by decide) ?_
        refine g_goto (tgt := 60) B d_X10_calm_88 (by decide) ?_
        exact g_cut rfl (ih (x8 + 1) (q_wl σ 94 (x8 : Int32).toNatClampNeg 1) h)
set_option maxRecDepth 20000 in
theorem t_X10_calm {Z : q_Z} {l : Launch} (N : Nat) (a0 : Int32) (a1 : Int32) (a2 : Int32) (a3 : Int32) (a4 : Int32)  (σ : q_S) {r : Int64} {σ' : q_S} (h : f_X10_calm N a0 a1 a2 a3 a4 σ = some (r, σ')) : q_M Z l y_X10_calm prog_12_method_48_code 16 (some .long) 2 [.ref (Z.1 84), .int a0, .int a1, .int a2, .int a3, .int a4] σ (some (.long r)) σ' := by
  refine q_met (by decide +kernel) (Nat.le_of_ble_eq_true rfl) (fun Γ hΓ B En => ?_)
  unfold f_X10_calm at h
  refine g_cut (lv' := [(0, .ref (Z.1 84)), (1, .int a0), (2, .int a1), (3, .int a2), (4, .int a3), (5, .int a4)]) rfl ?_
  refine g_iload_n B d_X10_calm_0 rfl rfl ?_
  refine g_iconst (v := 0) B d_X10_calm_1 (by decide) ?_
  refine g_bipush (v := 15) B d_X10_calm_2 (by decide) ?_
  refine g_callS (As := [.int a0, .int 0, .int 15]) (rest := []) B d_X10_calm_4 (t_X10_in a0 0 15 σ rfl) m_X10_in w_WaterOthersModel_55 rfl rfl (Nat.le_of_ble_eq_true rfl) (by omega) (by decide) ?_
  refine g_if_eq (tgt := 50) B d_X10_calm_7 (by decide) h (fun h => ?_) (fun h => ?_)
  · refine g_ldc2 (v := (-1000000000000000002)) B d_X10_calm_50 k_w_WaterOthersModel_167 ?_
    obtain ⟨rfl, rfl⟩ := q_ps h
    exact g_lret B En d_X10_calm_53
  · refine g_iload_n B d_X10_calm_10 rfl rfl ?_
    refine g_iconst (v := 0) B d_X10_calm_11 (by decide) ?_
    refine g_bipush (v := 10) B d_X10_calm_12 (by decide) ?_
    refine g_callS (As := [.int a1, .int 0, .int 10]) (rest := []) B d_X10_calm_14 (t_X10_in a1 0 10 σ rfl) m_X10_in w_WaterOthersModel_55 rfl rfl (Nat.le_of_ble_eq_true rfl) (by omega) (by decide) ?_
    refine g_if_eq (tgt := 50) B d_X10_calm_17 (by decide) h (fun h => ?_) (fun h => ?_)
    · refine g_ldc2 (v := (-1000000000000000002)) B d_X10_calm_50 k_w_WaterOthersModel_167 ?_
      obtain ⟨rfl, rfl⟩ := q_ps h
      exact g_lret B En d_X10_calm_53
    · refine g_iload_n B d_X10_calm_20 rfl rfl ?_
      refine g_iconst (v := 0) B d_X10_calm_21 (by decide) ?_
      refine g_bipush (v := 15) B d_X10_calm_22 (by decide) ?_
      refine g_callS (As := [.int a2, .int 0, .int 15]) (rest := []) B d_X10_calm_24 (t_X10_in a2 0 15 σ rfl) m_X10_in w_WaterOthersModel_55 rfl rfl (Nat.le_of_ble_eq_true rfl) (by omega) (by decide) ?_
      refine g_if_eq (tgt := 50) B d_X10_calm_27 (by decide) h (fun h => ?_) (fun h => ?_)
      · refine g_ldc2 (v := (-1000000000000000002)) B d_X10_calm_50 k_w_WaterOthersModel_167 ?_
        obtain ⟨rfl, rfl⟩ := q_ps h
        exact g_lret B En d_X10_calm_53
      · refine g_iload B d_X10_calm_30 rfl ?_
        refine g_iconst (v := 0) B d_X10_calm_32 (by decide) ?_
        refine g_iconst (v := 1) B d_X10_calm_33 (by decide) ?_
        refine g_callS (As := [.int a3, .int 0, .int 1]) (rest := []) B d_X10_calm_34 (t_X10_in a3 0 1 σ rfl) m_X10_in w_WaterOthersModel_55 rfl rfl (Nat.le_of_ble_eq_true rfl) (by omega) (by decide) ?_
        refine g_if_eq (tgt := 50) B d_X10_calm_37 (by decide) h (fun h => ?_) (fun h => ?_)
        · refine g_ldc2 (v := (-1000000000000000002)) B d_X10_calm_50 k_w_WaterOthersModel_167 ?_
          obtain ⟨rfl, rfl⟩ := q_ps h
          exact g_lret B En d_X10_calm_53
        · refine g_iload B d_X10_calm_40 rfl ?_
          refine g_iconst (v := 0) B d_X10_calm_42 (by decide) ?_
          refine g_iconst (v := 1) B d_X10_calm_43 (by decide) ?_
          refine g_callS (As := [.int a4, .int 0, .int 1]) (rest := []) B d_X10_calm_44 (t_X10_in a4 0 1 σ rfl) m_X10_in w_WaterOthersModel_55 rfl rfl (Nat.le_of_ble_eq_true rfl) (by omega) (by decide) ?_
          refine g_if_ne (tgt := 54) B d_X10_calm_47 (by decide) h (fun h => ?_) (fun h => ?_)
          · refine g_lconst (v := 1) B d_X10_calm_54 (by decide) ?_
            refine g_lstore B d_X10_calm_55 (by decide) ?_
            refine g_iconst (v := 0) B d_X10_calm_57 (by decide) ?_
            refine g_istore B d_X10_calm_58 (by decide) ?_
            exact g_cut rfl (t_X10_calm_60 B En N a0 a1 a2 a3 a4 1 N 0 σ h)
          · refine g_ldc2 (v := (-1000000000000000002)) B d_X10_calm_50 k_w_WaterOthersModel_167 ?_
            obtain ⟨rfl, rfl⟩ := q_ps h
            exact g_lret B En d_X10_calm_53

theorem k_w_WaterOthersModel_171 : Cond.constant "WaterOthersModel" 171 (65537) ∈ q_tbl := q_mem 940 (by decide +kernel) (by decide +kernel)
def f_X10_year_169 (N : Nat)  (x3 : Int32)  : Nat → Int32 → Int32 → q_S → Option (Int32 × q_S)
  | 0, _, _, _ => none
  | n + 1, x5, x6, σ =>
    if (6 : Int32) ≤ x6 then (if x3 = 0 then (some (x5, σ))
      else (if x3 = 1 then ((f_X10_partedNow N σ).bind fun z225 =>
          some (z225, σ))
        else (some ((σ.1 86 (48 : Int32).toNatClampNeg), σ))))
    else (if (f_X10_isThere x6 σ) = 0 then (f_X10_year_169 N x3 n (x5 + 0) (x6 + 1) σ)
      else (if ¬ (((6 * x6) : Int32) < 0 ∨ 50 ≤ ((6 * x6) : Int32).toNatClampNeg) then f_X10_year_169 N x3 n (x5 + (σ.1 86 ((6 * x6) : Int32).toNatClampNeg)) (x6 + 1) σ else none))
def f_X10_year_43 (N : Nat)  (x2 : Int32) (x3 : Int32)  : Nat → Int32 → Int32 → q_S → Option (Int32 × q_S)
  | 0, _, _, _ => none
  | n + 1, x4, x5, σ =>
    if x2 ≤ x5 then (f_X10_year_169 N x3 N 0 0 σ)
    else (if (4 : Int32) ≤ (q_rem ((q_rem ((75 * x4) + 74) 65537) / 6) 8) then (if (q_rem ((q_rem ((75 * x4) + 74) 65537) / 6) 8) = 4 then ((f_X10_waits N (q_rem (q_rem ((75 * x4) + 74) 65537) 6) σ).bind fun z115 =>
          f_X10_year_43 N x2 x3 n (q_rem ((75 * x4) + 74) 65537) (x5 + 1) z115.2)
        else (if (q_rem ((q_rem ((75 * x4) + 74) 65537) / 6) 8) = 5 then ((f_X10_stone N (q_rem (q_rem ((75 * x4) + 74) 65537) 6) σ).bind fun z131 =>
            f_X10_year_43 N x2 x3 n (q_rem ((75 * x4) + 74) 65537) (x5 + 1) z131.2)
          else (if (q_rem ((q_rem ((75 * x4) + 74) 65537) / 6) 8) = 6 then ((f_X10_blow N σ).bind fun z146 =>
              f_X10_year_43 N x2 x3 n (q_rem ((75 * x4) + 74) 65537) (x5 + 1) z146)
            else ((f_X10_beat N σ).bind fun z153 =>
              f_X10_year_43 N x2 x3 n (q_rem ((75 * x4) + 74) 65537) (x5 + 1) z153.2))))
      else (if (2 : Int32) ≤ (q_rem ((q_rem ((75 * x4) + 74) 65537) / 6) 8) then ((f_X10_stepTo N (q_rem (q_rem ((75 * x4) + 74) 65537) 6) 1 σ).bind fun z99 =>
          f_X10_year_43 N x2 x3 n (q_rem ((75 * x4) + 74) 65537) (x5 + 1) z99.2)
        else ((f_X10_stepTo N (q_rem (q_rem ((75 * x4) + 74) 65537) 6) (-1) σ).bind fun z99 =>
          f_X10_year_43 N x2 x3 n (q_rem ((75 * x4) + 74) 65537) (x5 + 1) z99.2)))
def f_X10_year (N : Nat) (a0 : Int32) (a1 : Int32) (a2 : Int32) (σ : q_S) : Option (Int32 × q_S) :=
  if (f_X10_in a0 0 9999) = 0 then (some ((-2), σ))
  else (if (f_X10_in a1 1 99) = 0 then (some ((-2), σ))
    else (if (f_X10_in a2 0 2) = 0 then (some ((-2), σ))
      else ((f_X10_asNow N σ).bind fun z34 =>
        f_X10_year_43 N a1 a2 N a0 0 z34)))
set_option maxRecDepth 20000 in
theorem t_X10_year_169 {Z : q_Z} {Γ : q_C} {r : Int32} {σ' : q_S} (B : q_B Z Γ prog_12_method_49_code "WaterOthersModel" 8 4) (En : q_E Z Γ (some .int) (some (.int r)) σ') (N : Nat)  (x3 : Int32)   : ∀ (n : Nat) (x5 : Int32) (x6 : Int32) (σ : q_S), f_X10_year_169 N x3 n x5 x6 σ = some (r, σ') → q_G Z Γ 8 σ 169 [(0, .ref (Z.1 84)), (3, .int x3), (5, .int x5), (6, .int x6)] [] := by
  intro n
  induction n with
  | zero =>
    intro x5 x6 σ h
    cases h
  | succ n ih =>
    intro x5 x6 σ h
    unfold f_X10_year_169 at h
    refine g_iload B d_X10_year_169 rfl ?_
    refine g_bipush (v := 6) B d_X10_year_171 (by decide) ?_
    refine g_icmp_ge (tgt := 210) B d_X10_year_173 (by decide) h (fun h => ?_) (fun h => ?_)
    · refine g_iload_n B d_X10_year_210 rfl rfl ?_
      refine g_if_ne (tgt := 219) B d_X10_year_211 (by decide) h (fun h => ?_) (fun h => ?_)
      · refine g_iload_n B d_X10_year_219 rfl rfl ?_
        refine g_iconst (v := 1) B d_X10_year_220 (by decide) ?_
        refine g_icmp_ne (tgt := 231) B d_X10_year_221 (by decide) h (fun h => ?_) (fun h => ?_)
        · refine g_aload_n B d_X10_year_231 rfl rfl ?_
          refine g_get (ci := 10) (k := 1) (v := .ref (Z.1 86)) B d_X10_year_232 q_in10 rfl (by decide) rfl (by decide) w_WaterOthersModel_13 rfl rfl ?_
          refine g_bipush (v := 48) B d_X10_year_235 (by decide) ?_
          refine g_iald B d_X10_year_237 (by decide) (fun _ _ => rfl) (by decide) ?_
          obtain ⟨rfl, rfl⟩ := q_ps h
          exact g_iret B En d_X10_year_238
        · refine g_aload_n B d_X10_year_224 rfl rfl ?_
          obtain ⟨z225, g225, h⟩ := q_bind h
          refine g_callV (p0 := 84) (ci := 10) (As := []) (rest := []) B d_X10_year_225 (t_X10_partedNow N σ g225) m_X10_partedNow w_WaterOthersModel_141 (by decide) rfl rfl rfl rfl (Nat.le_of_ble_eq_true rfl) (by omega) (by decide) ?_
          refine g_goto (tgt := 238) B d_X10_year_228 (by decide) ?_
          obtain ⟨rfl, rfl⟩ := q_ps h
          exact g_iret B En d_X10_year_238
      · refine g_iload B d_X10_year_214 rfl ?_
        refine g_goto (tgt := 238) B d_X10_year_216 (by decide) ?_
        obtain ⟨rfl, rfl⟩ := q_ps h
        exact g_iret B En d_X10_year_238
    · refine g_iload B d_X10_year_176 rfl ?_
      refine g_aload_n B d_X10_year_178 rfl rfl ?_
      refine g_iload B d_X10_year_179 rfl ?_
      refine g_callV (p0 := 84) (ci := 10) (As := [.int x6]) (rest := [.int x5]) B d_X10_year_181 (t_X10_isThere x6 σ rfl) m_X10_isThere w_WaterOthersModel_77 (by decide) rfl rfl rfl rfl (Nat.le_of_ble_eq_true rfl) (by omega) (by decide) ?_
      refine g_if_eq (tgt := 200) B d_X10_year_184 (by decide) h (fun h => ?_) (fun h => ?_)
      · refine g_iconst (v := 0) B d_X10_year_200 (by decide) ?_
        refine g_iadd B d_X10_year_201 ?_
        refine g_istore B d_X10_year_202 (by decide) ?_
        refine g_iinc (v := (x6 + 1)) B d_X10_year_204 rfl rfl (by decide) ?_
        refine g_goto (tgt := 169) B d_X10_year_207 (by decide) ?_
        exact g_cut rfl (ih (x5 + 0) (x6 + 1) σ h)
      · refine g_aload_n B d_X10_year_187 rfl rfl ?_
        refine g_get (ci := 10) (k := 1) (v := .ref (Z.1 86)) B d_X10_year_188 q_in10 rfl (by decide) rfl (by decide) w_WaterOthersModel_13 rfl rfl ?_
        refine g_bipush (v := 6) B d_X10_year_191 (by decide) ?_
        refine g_iload B d_X10_year_193 rfl ?_
        refine g_imul B d_X10_year_195 ?_
        obtain ⟨h196, h⟩ := q_chk h
        refine g_iald B d_X10_year_196 (by decide) (fun _ _ => rfl) h196 ?_
        refine g_goto (tgt := 201) B d_X10_year_197 (by decide) ?_
        refine g_iadd B d_X10_year_201 ?_
        refine g_istore B d_X10_year_202 (by decide) ?_
        refine g_iinc (v := (x6 + 1)) B d_X10_year_204 rfl rfl (by decide) ?_
        refine g_goto (tgt := 169) B d_X10_year_207 (by decide) ?_
        exact g_cut rfl (ih (x5 + (σ.1 86 ((6 * x6) : Int32).toNatClampNeg)) (x6 + 1) σ h)
set_option maxRecDepth 20000 in
theorem t_X10_year_43 {Z : q_Z} {Γ : q_C} {r : Int32} {σ' : q_S} (B : q_B Z Γ prog_12_method_49_code "WaterOthersModel" 8 4) (En : q_E Z Γ (some .int) (some (.int r)) σ') (N : Nat)  (x2 : Int32) (x3 : Int32)   : ∀ (n : Nat) (x4 : Int32) (x5 : Int32) (σ : q_S), f_X10_year_43 N x2 x3 n x4 x5 σ = some (r, σ') → q_G Z Γ 8 σ 43 [(0, .ref (Z.1 84)), (2, .int x2), (3, .int x3), (4, .int x4), (5, .int x5)] [] := by
  intro n
  induction n with
  | zero =>
    intro x4 x5 σ h
    cases h
  | succ n ih =>
    intro x4 x5 σ h
    unfold f_X10_year_43 at h
    refine g_iload B d_X10_year_43 rfl ?_
    refine g_iload_n B d_X10_year_45 rfl rfl ?_
    refine g_icmp_ge (tgt := 163) B d_X10_year_46 (by decide) h (fun h => ?_) (fun h => ?_)
    · refine g_iconst (v := 0) B d_X10_year_163 (by decide) ?_
      refine g_istore B d_X10_year_164 (by decide) ?_
      refine g_iconst (v := 0) B d_X10_year_166 (by decide) ?_
      refine g_istore B d_X10_year_167 (by decide) ?_
      exact g_cut rfl (t_X10_year_169 B En N x3 N 0 0 σ h)
    · refine g_bipush (v := 75) B d_X10_year_49 (by decide) ?_
      refine g_iload B d_X10_year_51 rfl ?_
      refine g_imul B d_X10_year_53 ?_
      refine g_bipush (v := 74) B d_X10_year_54 (by decide) ?_
      refine g_iadd B d_X10_year_56 ?_
      refine g_ldc (v := 65537) B d_X10_year_57 k_w_WaterOthersModel_171 ?_
      refine g_irem B d_X10_year_59 (by decide) ?_
      refine g_istore B d_X10_year_60 (by decide) ?_
      refine g_iload B d_X10_year_62 rfl ?_
      refine g_bipush (v := 6) B d_X10_year_64 (by decide) ?_
      refine g_irem B d_X10_year_66 (by decide) ?_
      refine g_istore B d_X10_year_67 (by decide) ?_
      refine g_iload B d_X10_year_69 rfl ?_
      refine g_bipush (v := 6) B d_X10_year_71 (by decide) ?_
      refine g_idiv B d_X10_year_73 (by decide) ?_
      refine g_bipush (v := 8) B d_X10_year_74 (by decide) ?_
      refine g_irem B d_X10_year_76 (by decide) ?_
      refine g_istore B d_X10_year_77 (by decide) ?_
      refine g_iload B d_X10_year_79 rfl ?_
      refine g_iconst (v := 4) B d_X10_year_81 (by decide) ?_
      refine g_icmp_ge (tgt := 106) B d_X10_year_82 (by decide) h (fun h => ?_) (fun h => ?_)
      · refine g_iload B d_X10_year_106 rfl ?_
        refine g_iconst (v := 4) B d_X10_year_108 (by decide) ?_
        refine g_icmp_ne (tgt := 122) B d_X10_year_109 (by decide) h (fun h => ?_) (fun h => ?_)
        · refine g_iload B d_X10_year_122 rfl ?_
          refine g_iconst (v := 5) B d_X10_year_124 (by decide) ?_
          refine g_icmp_ne (tgt := 138) B d_X10_year_125 (by decide) h (fun h => ?_) (fun h => ?_)
          · refine g_iload B d_X10_year_138 rfl ?_
            refine g_bipush (v := 6) B d_X10_year_140 (by decide) ?_
            refine g_icmp_ne (tgt := 152) B d_X10_year_142 (by decide) h (fun h => ?_) (fun h => ?_)
            · refine g_aload_n B d_X10_year_152 rfl rfl ?_
              obtain ⟨z153, g153, h⟩ := q_bind h
              refine g_callV (p0 := 84) (ci := 10) (As := []) (rest := []) B d_X10_year_153 (t_X10_beat N σ g153) m_X10_beat w_WaterOthersModel_129 (by decide) rfl rfl rfl rfl (Nat.le_of_ble_eq_true rfl) (by omega) (by decide) ?_
              refine g_pop B d_X10_year_156 rfl ?_
              refine g_iinc (v := (x5 + 1)) B d_X10_year_157 rfl rfl (by decide) ?_
              refine g_goto (tgt := 43) B d_X10_year_160 (by decide) ?_
              exact g_cut rfl (ih (q_rem ((75 * x4) + 74) 65537) (x5 + 1) z153.2 h)
            · refine g_aload_n B d_X10_year_145 rfl rfl ?_
              obtain ⟨z146, g146, h⟩ := q_bind h
              refine g_callV (p0 := 84) (ci := 10) (As := []) (rest := []) B d_X10_year_146 (t_X10_blow N σ g146) m_X10_blow w_WaterOthersModel_126 (by decide) rfl rfl rfl rfl (Nat.le_of_ble_eq_true rfl) (by omega) (by decide) ?_
              refine g_goto (tgt := 157) B d_X10_year_149 (by decide) ?_
              refine g_iinc (v := (x5 + 1)) B d_X10_year_157 rfl rfl (by decide) ?_
              refine g_goto (tgt := 43) B d_X10_year_160 (by decide) ?_
              exact g_cut rfl (ih (q_rem ((75 * x4) + 74) 65537) (x5 + 1) z146 h)
          · refine g_aload_n B d_X10_year_128 rfl rfl ?_
            refine g_iload B d_X10_year_129 rfl ?_
            obtain ⟨z131, g131, h⟩ := q_bind h
            refine g_callV (p0 := 84) (ci := 10) (As := [.int (q_rem (q_rem ((75 * x4) + 74) 65537) 6)]) (rest := []) B d_X10_year_131 (t_X10_stone N (q_rem (q_rem ((75 * x4) + 74) 65537) 6) σ g131) m_X10_stone w_WaterOthersModel_110 (by decide) rfl rfl rfl rfl (Nat.le_of_ble_eq_true rfl) (by omega) (by decide) ?_
            refine g_pop B d_X10_year_134 rfl ?_
            refine g_goto (tgt := 157) B d_X10_year_135 (by decide) ?_
            refine g_iinc (v := (x5 + 1)) B d_X10_year_157 rfl rfl (by decide) ?_
            refine g_goto (tgt := 43) B d_X10_year_160 (by decide) ?_
            exact g_cut rfl (ih (q_rem ((75 * x4) + 74) 65537) (x5 + 1) z131.2 h)
        · refine g_aload_n B d_X10_year_112 rfl rfl ?_
          refine g_iload B d_X10_year_113 rfl ?_
          obtain ⟨z115, g115, h⟩ := q_bind h
          refine g_callV (p0 := 84) (ci := 10) (As := [.int (q_rem (q_rem ((75 * x4) + 74) 65537) 6)]) (rest := []) B d_X10_year_115 (t_X10_waits N (q_rem (q_rem ((75 * x4) + 74) 65537) 6) σ g115) m_X10_waits w_WaterOthersModel_107 (by decide) rfl rfl rfl rfl (Nat.le_of_ble_eq_true rfl) (by omega) (by decide) ?_
          refine g_pop B d_X10_year_118 rfl ?_
          refine g_goto (tgt := 157) B d_X10_year_119 (by decide) ?_
          refine g_iinc (v := (x5 + 1)) B d_X10_year_157 rfl rfl (by decide) ?_
          refine g_goto (tgt := 43) B d_X10_year_160 (by decide) ?_
          exact g_cut rfl (ih (q_rem ((75 * x4) + 74) 65537) (x5 + 1) z115.2 h)
      · refine g_aload_n B d_X10_year_85 rfl rfl ?_
        refine g_iload B d_X10_year_86 rfl ?_
        refine g_iload B d_X10_year_88 rfl ?_
        refine g_iconst (v := 2) B d_X10_year_90 (by decide) ?_
        refine g_icmp_ge (tgt := 98) B d_X10_year_91 (by decide) h (fun h => ?_) (fun h => ?_)
        · refine g_iconst (v := 1) B d_X10_year_98 (by decide) ?_
          obtain ⟨z99, g99, h⟩ := q_bind h
          refine g_callV (p0 := 84) (ci := 10) (As := [.int (q_rem (q_rem ((75 * x4) + 74) 65537) 6), .int 1]) (rest := []) B d_X10_year_99 (t_X10_stepTo N (q_rem (q_rem ((75 * x4) + 74) 65537) 6) 1 σ g99) m_X10_stepTo w_WaterOthersModel_113 (by decide) rfl rfl rfl rfl (Nat.le_of_ble_eq_true rfl) (by omega) (by decide) ?_
          refine g_pop B d_X10_year_102 rfl ?_
          refine g_goto (tgt := 157) B d_X10_year_103 (by decide) ?_
          refine g_iinc (v := (x5 + 1)) B d_X10_year_157 rfl rfl (by decide) ?_
          refine g_goto (tgt := 43) B d_X10_year_160 (by decide) ?_
          exact g_cut rfl (ih (q_rem ((75 * x4) + 74) 65537) (x5 + 1) z99.2 h)
        · refine g_iconst (v := (-1)) B d_X10_year_94 (by decide) ?_
          refine g_goto (tgt := 99) B d_X10_year_95 (by decide) ?_
          obtain ⟨z99, g99, h⟩ := q_bind h
          refine g_callV (p0 := 84) (ci := 10) (As := [.int (q_rem (q_rem ((75 * x4) + 74) 65537) 6), .int (-1)]) (rest := []) B d_X10_year_99 (t_X10_stepTo N (q_rem (q_rem ((75 * x4) + 74) 65537) 6) (-1) σ g99) m_X10_stepTo w_WaterOthersModel_113 (by decide) rfl rfl rfl rfl (Nat.le_of_ble_eq_true rfl) (by omega) (by decide) ?_
          refine g_pop B d_X10_year_102 rfl ?_
          refine g_goto (tgt := 157) B d_X10_year_103 (by decide) ?_
          refine g_iinc (v := (x5 + 1)) B d_X10_year_157 rfl rfl (by decide) ?_
          refine g_goto (tgt := 43) B d_X10_year_160 (by decide) ?_
          exact g_cut rfl (ih (q_rem ((75 * x4) + 74) 65537) (x5 + 1) z99.2 h)
set_option maxRecDepth 20000 in
theorem t_X10_year {Z : q_Z} {l : Launch} (N : Nat) (a0 : Int32) (a1 : Int32) (a2 : Int32)  (σ : q_S) {r : Int32} {σ' : q_S} (h : f_X10_year N a0 a1 a2 σ = some (r, σ')) : q_M Z l y_X10_year prog_12_method_49_code 8 (some .int) 4 [.ref (Z.1 84), .int a0, .int a1, .int a2] σ (some (.int r)) σ' := by
  refine q_met (by decide +kernel) (Nat.le_of_ble_eq_true rfl) (fun Γ hΓ B En => ?_)
  unfold f_X10_year at h
  refine g_cut (lv' := [(0, .ref (Z.1 84)), (1, .int a0), (2, .int a1), (3, .int a2)]) rfl ?_
  refine g_iload_n B d_X10_year_0 rfl rfl ?_
  refine g_iconst (v := 0) B d_X10_year_1 (by decide) ?_
  refine g_sipush (v := 9999) B d_X10_year_2 (by decide) ?_
  refine g_callS (As := [.int a0, .int 0, .int 9999]) (rest := []) B d_X10_year_5 (t_X10_in a0 0 9999 σ rfl) m_X10_in w_WaterOthersModel_55 rfl rfl (Nat.le_of_ble_eq_true rfl) (by omega) (by decide) ?_
  refine g_if_eq (tgt := 30) B d_X10_year_8 (by decide) h (fun h => ?_) (fun h => ?_)
  · refine g_bipush (v := (-2)) B d_X10_year_30 (by decide) ?_
    obtain ⟨rfl, rfl⟩ := q_ps h
    exact g_iret B En d_X10_year_32
  · refine g_iload_n B d_X10_year_11 rfl rfl ?_
    refine g_iconst (v := 1) B d_X10_year_12 (by decide) ?_
    refine g_bipush (v := 99) B d_X10_year_13 (by decide) ?_
    refine g_callS (As := [.int a1, .int 1, .int 99]) (rest := []) B d_X10_year_15 (t_X10_in a1 1 99 σ rfl) m_X10_in w_WaterOthersModel_55 rfl rfl (Nat.le_of_ble_eq_true rfl) (by omega) (by decide) ?_
    refine g_if_eq (tgt := 30) B d_X10_year_18 (by decide) h (fun h => ?_) (fun h => ?_)
    · refine g_bipush (v := (-2)) B d_X10_year_30 (by decide) ?_
      obtain ⟨rfl, rfl⟩ := q_ps h
      exact g_iret B En d_X10_year_32
    · refine g_iload_n B d_X10_year_21 rfl rfl ?_
      refine g_iconst (v := 0) B d_X10_year_22 (by decide) ?_
      refine g_iconst (v := 2) B d_X10_year_23 (by decide) ?_
      refine g_callS (As := [.int a2, .int 0, .int 2]) (rest := []) B d_X10_year_24 (t_X10_in a2 0 2 σ rfl) m_X10_in w_WaterOthersModel_55 rfl rfl (Nat.le_of_ble_eq_true rfl) (by omega) (by decide) ?_
      refine g_if_ne (tgt := 33) B d_X10_year_27 (by decide) h (fun h => ?_) (fun h => ?_)
      · refine g_aload_n B d_X10_year_33 rfl rfl ?_
        obtain ⟨z34, g34, h⟩ := q_bind h
        refine g_callV (p0 := 84) (ci := 10) (As := []) (rest := []) B d_X10_year_34 (t_X10_asNow N σ g34) m_X10_asNow w_WaterOthersModel_117 (by decide) rfl rfl rfl rfl (Nat.le_of_ble_eq_true rfl) (by omega) (by decide) ?_
        refine g_iload_n B d_X10_year_37 rfl rfl ?_
        refine g_istore B d_X10_year_38 (by decide) ?_
        refine g_iconst (v := 0) B d_X10_year_40 (by decide) ?_
        refine g_istore B d_X10_year_41 (by decide) ?_
        exact g_cut rfl (t_X10_year_43 B En N a1 a2 N a0 0 z34 h)
      · refine g_bipush (v := (-2)) B d_X10_year_30 (by decide) ?_
        obtain ⟨rfl, rfl⟩ := q_ps h
        exact g_iret B En d_X10_year_32

theorem w_WaterOthersModel_48 : Cond.fieldLink "WaterOthersModel" 48 "WaterOthersModel" "image" "[I" ∈ q_tbl := q_mem 705 (by decide +kernel) (by decide +kernel)
theorem w_WaterOthersModel_51 : Cond.fieldLink "WaterOthersModel" 51 "WaterOthersModel" "isKept" "[Z" ∈ q_tbl := q_mem 706 (by decide +kernel) (by decide +kernel)
def f_X10_image_78 (N : Nat)  (x1 : Int32) (x2 : Int32)  : Nat → Int32 → q_S → Option (Int32 × q_S)
  | 0, _, _ => none
  | n + 1, x3, σ =>
    if (16 : Int32) ≤ x3 then (if ¬ (((x2 + 80) : Int32) < 0 ∨ 180 ≤ ((x2 + 80) : Int32).toNatClampNeg) then if ¬ (((x2 + 81) : Int32) < 0 ∨ 180 ≤ ((x2 + 81) : Int32).toNatClampNeg) then if ¬ (((x2 + 82) : Int32) < 0 ∨ 180 ≤ ((x2 + 82) : Int32).toNatClampNeg) then if ¬ (((x2 + 83) : Int32) < 0 ∨ 180 ≤ ((x2 + 83) : Int32).toNatClampNeg) then if ¬ ((x1 : Int32) < 0 ∨ 2 ≤ (x1 : Int32).toNatClampNeg) then some (1, (q_w (q_w (q_w (q_w (q_w σ 96 ((x2 + 80) : Int32).toNatClampNeg (σ.1 84 2)) 96 ((x2 + 81) : Int32).toNatClampNeg ((q_w σ 96 ((x2 + 80) : Int32).toNatClampNeg (σ.1 84 2)).1 84 4)) 96 ((x2 + 82) : Int32).toNatClampNeg ((q_w (q_w σ 96 ((x2 + 80) : Int32).toNatClampNeg (σ.1 84 2)) 96 ((x2 + 81) : Int32).toNatClampNeg ((q_w σ 96 ((x2 + 80) : Int32).toNatClampNeg (σ.1 84 2)).1 84 4)).1 84 5)) 96 ((x2 + 83) : Int32).toNatClampNeg ((q_w (q_w (q_w σ 96 ((x2 + 80) : Int32).toNatClampNeg (σ.1 84 2)) 96 ((x2 + 81) : Int32).toNatClampNeg ((q_w σ 96 ((x2 + 80) : Int32).toNatClampNeg (σ.1 84 2)).1 84 4)) 96 ((x2 + 82) : Int32).toNatClampNeg ((q_w (q_w σ 96 ((x2 + 80) : Int32).toNatClampNeg (σ.1 84 2)) 96 ((x2 + 81) : Int32).toNatClampNeg ((q_w σ 96 ((x2 + 80) : Int32).toNatClampNeg (σ.1 84 2)).1 84 4)).1 84 5)).1 84 6)) 97 (x1 : Int32).toNatClampNeg (vp_nar .boolean 1))) else none else none else none else none else none)
    else (if ¬ ((x3 : Int32) < 0 ∨ 16 ≤ (x3 : Int32).toNatClampNeg) then if ¬ ((((x2 + 56) + x3) : Int32) < 0 ∨ 180 ≤ (((x2 + 56) + x3) : Int32).toNatClampNeg) then f_X10_image_78 N x1 x2 n (x3 + 1) (q_w σ 96 (((x2 + 56) + x3) : Int32).toNatClampNeg (σ.1 88 (x3 : Int32).toNatClampNeg)) else none else none)
def f_X10_image_47 (N : Nat)  (x1 : Int32) (x2 : Int32)  : Nat → Int32 → q_S → Option (Int32 × q_S)
  | 0, _, _ => none
  | n + 1, x3, σ =>
    if (6 : Int32) ≤ x3 then (f_X10_image_78 N x1 x2 N 0 σ)
    else (if ¬ ((x3 : Int32) < 0 ∨ 6 ≤ (x3 : Int32).toNatClampNeg) then if ¬ ((((x2 + 50) + x3) : Int32) < 0 ∨ 180 ≤ (((x2 + 50) + x3) : Int32).toNatClampNeg) then f_X10_image_47 N x1 x2 n (x3 + 1) (q_w σ 96 (((x2 + 50) + x3) : Int32).toNatClampNeg (σ.1 87 (x3 : Int32).toNatClampNeg)) else none else none)
def f_X10_image_19 (N : Nat)  (x1 : Int32) (x2 : Int32)  : Nat → Int32 → q_S → Option (Int32 × q_S)
  | 0, _, _ => none
  | n + 1, x3, σ =>
    if (50 : Int32) ≤ x3 then (f_X10_image_47 N x1 x2 N 0 σ)
    else (if ¬ ((x3 : Int32) < 0 ∨ 50 ≤ (x3 : Int32).toNatClampNeg) then if ¬ (((x2 + x3) : Int32) < 0 ∨ 180 ≤ ((x2 + x3) : Int32).toNatClampNeg) then f_X10_image_19 N x1 x2 n (x3 + 1) (q_w σ 96 ((x2 + x3) : Int32).toNatClampNeg (σ.1 85 (x3 : Int32).toNatClampNeg)) else none else none)
def f_X10_image (N : Nat) (a0 : Int32) (σ : q_S) : Option (Int32 × q_S) :=
  if (f_X10_in a0 0 1) = 0 then (some ((-2), σ))
  else (f_X10_image_19 N a0 (90 * a0) N 0 σ)
set_option maxRecDepth 20000 in
theorem t_X10_image_78 {Z : q_Z} {Γ : q_C} {r : Int32} {σ' : q_S} (B : q_B Z Γ prog_12_method_50_code "WaterOthersModel" 4 2) (En : q_E Z Γ (some .int) (some (.int r)) σ') (N : Nat)  (x1 : Int32) (x2 : Int32)   : ∀ (n : Nat) (x3 : Int32) (σ : q_S), f_X10_image_78 N x1 x2 n x3 σ = some (r, σ') → q_G Z Γ 4 σ 78 [(0, .ref (Z.1 84)), (1, .int x1), (2, .int x2), (3, .int x3)] [] := by
  intro n
  induction n with
  | zero =>
    intro x3 σ h
    cases h
  | succ n ih =>
    intro x3 σ h
    unfold f_X10_image_78 at h
    refine g_iload_n B d_X10_image_78 rfl rfl ?_
    refine g_bipush (v := 16) B d_X10_image_79 (by decide) ?_
    refine g_icmp_ge (tgt := 107) B d_X10_image_81 (by decide) h (fun h => ?_) (fun h => ?_)
    · refine g_aload_n B d_X10_image_107 rfl rfl ?_
      refine g_get (ci := 10) (k := 20) (v := .ref (Z.1 96)) B d_X10_image_108 q_in10 rfl (by decide) rfl (by decide) w_WaterOthersModel_48 rfl rfl ?_
      refine g_iload_n B d_X10_image_111 rfl rfl ?_
      refine g_bipush (v := 80) B d_X10_image_112 (by decide) ?_
      refine g_iadd B d_X10_image_114 ?_
      refine g_aload_n B d_X10_image_115 rfl rfl ?_
      refine g_get (ci := 10) (k := 2) B d_X10_image_116 q_in10 rfl (by decide) rfl (by decide) w_WaterOthersModel_59 rfl rfl ?_
      obtain ⟨h119, h⟩ := q_chk h
      refine g_iast B d_X10_image_119 (by decide) (fun _ _ => rfl) h119 ?_
      refine g_aload_n B d_X10_image_120 rfl rfl ?_
      refine g_get (ci := 10) (k := 20) (v := .ref (Z.1 96)) B d_X10_image_121 q_in10 rfl (by decide) rfl (by decide) w_WaterOthersModel_48 rfl rfl ?_
      refine g_iload_n B d_X10_image_124 rfl rfl ?_
      refine g_bipush (v := 81) B d_X10_image_125 (by decide) ?_
      refine g_iadd B d_X10_image_127 ?_
      refine g_aload_n B d_X10_image_128 rfl rfl ?_
      refine g_get (ci := 10) (k := 4) B d_X10_image_129 q_in10 rfl (by decide) rfl (by decide) w_WaterOthersModel_70 rfl rfl ?_
      obtain ⟨h132, h⟩ := q_chk h
      refine g_iast B d_X10_image_132 (by decide) (fun _ _ => rfl) h132 ?_
      refine g_aload_n B d_X10_image_133 rfl rfl ?_
      refine g_get (ci := 10) (k := 20) (v := .ref (Z.1 96)) B d_X10_image_134 q_in10 rfl (by decide) rfl (by decide) w_WaterOthersModel_48 rfl rfl ?_
      refine g_iload_n B d_X10_image_137 rfl rfl ?_
      refine g_bipush (v := 82) B d_X10_image_138 (by decide) ?_
      refine g_iadd B d_X10_image_140 ?_
      refine g_aload_n B d_X10_image_141 rfl rfl ?_
      refine g_get (ci := 10) (k := 5) B d_X10_image_142 q_in10 rfl (by decide) rfl (by decide) w_WaterOthersModel_19 rfl rfl ?_
      obtain ⟨h145, h⟩ := q_chk h
      refine g_iast B d_X10_image_145 (by decide) (fun _ _ => rfl) h145 ?_
      refine g_aload_n B d_X10_image_146 rfl rfl ?_
      refine g_get (ci := 10) (k := 20) (v := .ref (Z.1 96)) B d_X10_image_147 q_in10 rfl (by decide) rfl (by decide) w_WaterOthersModel_48 rfl rfl ?_
      refine g_iload_n B d_X10_image_150 rfl rfl ?_
      refine g_bipush (v := 83) B d_X10_image_151 (by decide) ?_
      refine g_iadd B d_X10_image_153 ?_
      refine g_aload_n B d_X10_image_154 rfl rfl ?_
      refine g_get (ci := 10) (k := 6) B d_X10_image_155 q_in10 rfl (by decide) rfl (by decide) w_WaterOthersModel_155 rfl rfl ?_
      obtain ⟨h158, h⟩ := q_chk h
      refine g_iast B d_X10_image_158 (by decide) (fun _ _ => rfl) h158 ?_
      refine g_aload_n B d_X10_image_159 rfl rfl ?_
      refine g_get (ci := 10) (k := 21) (v := .ref (Z.1 97)) B d_X10_image_160 q_in10 rfl (by decide) rfl (by decide) w_WaterOthersModel_51 rfl rfl ?_
      refine g_iload_n B d_X10_image_163 rfl rfl ?_
      refine g_iconst (v := 1) B d_X10_image_164 (by decide) ?_
      obtain ⟨h165, h⟩ := q_chk h
      refine g_zast B d_X10_image_165 (by decide) (fun _ _ => rfl) h165 ?_
      refine g_iconst (v := 1) B d_X10_image_166 (by decide) ?_
      obtain ⟨rfl, rfl⟩ := q_ps h
      exact g_iret B En d_X10_image_167
    · refine g_aload_n B d_X10_image_84 rfl rfl ?_
      refine g_get (ci := 10) (k := 20) (v := .ref (Z.1 96)) B d_X10_image_85 q_in10 rfl (by decide) rfl (by decide) w_WaterOthersModel_48 rfl rfl ?_
      refine g_iload_n B d_X10_image_88 rfl rfl ?_
      refine g_bipush (v := 56) B d_X10_image_89 (by decide) ?_
      refine g_iadd B d_X10_image_91 ?_
      refine g_iload_n B d_X10_image_92 rfl rfl ?_
      refine g_iadd B d_X10_image_93 ?_
      refine g_aload_n B d_X10_image_94 rfl rfl ?_
      refine g_get (ci := 10) (k := 7) (v := .ref (Z.1 88)) B d_X10_image_95 q_in10 rfl (by decide) rfl (by decide) w_WaterOthersModel_23 rfl rfl ?_
      refine g_iload_n B d_X10_image_98 rfl rfl ?_
      obtain ⟨h99, h⟩ := q_chk h
      refine g_iald B d_X10_image_99 (by decide) (fun _ _ => rfl) h99 ?_
      obtain ⟨h100, h⟩ := q_chk h
      refine g_iast B d_X10_image_100 (by decide) (fun _ _ => rfl) h100 ?_
      refine g_iinc (v := (x3 + 1)) B d_X10_image_101 rfl rfl (by decide) ?_
      refine g_goto (tgt := 78) B d_X10_image_104 (by decide) ?_
      exact g_cut rfl (ih (x3 + 1) (q_w σ 96 (((x2 + 56) + x3) : Int32).toNatClampNeg (σ.1 88 (x3 : Int32).toNatClampNeg)) h)
set_option maxRecDepth 20000 in
theorem t_X10_image_47 {Z : q_Z} {Γ : q_C} {r : Int32} {σ' : q_S} (B : q_B Z Γ prog_12_method_50_code "WaterOthersModel" 4 2) (En : q_E Z Γ (some .int) (some (.int r)) σ') (N : Nat)  (x1 : Int32) (x2 : Int32)   : ∀ (n : Nat) (x3 : Int32) (σ : q_S), f_X10_image_47 N x1 x2 n x3 σ = some (r, σ') → q_G Z Γ 4 σ 47 [(0, .ref (Z.1 84)), (1, .int x1), (2, .int x2), (3, .int x3)] [] := by
  intro n
  induction n with
  | zero =>
    intro x3 σ h
    cases h
  | succ n ih =>
    intro x3 σ h
    unfold f_X10_image_47 at h
    refine g_iload_n B d_X10_image_47 rfl rfl ?_
    refine g_bipush (v := 6) B d_X10_image_48 (by decide) ?_
    refine g_icmp_ge (tgt := 76) B d_X10_image_50 (by decide) h (fun h => ?_) (fun h => ?_)
    · refine g_iconst (v := 0) B d_X10_image_76 (by decide) ?_
      refine g_istore_n B d_X10_image_77 rfl (by decide) ?_
      exact g_cut rfl (t_X10_image_78 B En N x1 x2 N 0 σ h)
    · refine g_aload_n B d_X10_image_53 rfl rfl ?_
      refine g_get (ci := 10) (k := 20) (v := .ref (Z.1 96)) B d_X10_image_54 q_in10 rfl (by decide) rfl (by decide) w_WaterOthersModel_48 rfl rfl ?_
      refine g_iload_n B d_X10_image_57 rfl rfl ?_
      refine g_bipush (v := 50) B d_X10_image_58 (by decide) ?_
      refine g_iadd B d_X10_image_60 ?_
      refine g_iload_n B d_X10_image_61 rfl rfl ?_
      refine g_iadd B d_X10_image_62 ?_
      refine g_aload_n B d_X10_image_63 rfl rfl ?_
      refine g_get (ci := 10) (k := 3) (v := .ref (Z.1 87)) B d_X10_image_64 q_in10 rfl (by decide) rfl (by decide) w_WaterOthersModel_16 rfl rfl ?_
      refine g_iload_n B d_X10_image_67 rfl rfl ?_
      obtain ⟨h68, h⟩ := q_chk h
      refine g_iald B d_X10_image_68 (by decide) (fun _ _ => rfl) h68 ?_
      obtain ⟨h69, h⟩ := q_chk h
      refine g_iast B d_X10_image_69 (by decide) (fun _ _ => rfl) h69 ?_
      refine g_iinc (v := (x3 + 1)) B d_X10_image_70 rfl rfl (by decide) ?_
      refine g_goto (tgt := 47) B d_X10_image_73 (by decide) ?_
      exact g_cut rfl (ih (x3 + 1) (q_w σ 96 (((x2 + 50) + x3) : Int32).toNatClampNeg (σ.1 87 (x3 : Int32).toNatClampNeg)) h)
set_option maxRecDepth 20000 in
theorem t_X10_image_19 {Z : q_Z} {Γ : q_C} {r : Int32} {σ' : q_S} (B : q_B Z Γ prog_12_method_50_code "WaterOthersModel" 4 2) (En : q_E Z Γ (some .int) (some (.int r)) σ') (N : Nat)  (x1 : Int32) (x2 : Int32)   : ∀ (n : Nat) (x3 : Int32) (σ : q_S), f_X10_image_19 N x1 x2 n x3 σ = some (r, σ') → q_G Z Γ 4 σ 19 [(0, .ref (Z.1 84)), (1, .int x1), (2, .int x2), (3, .int x3)] [] := by
  intro n
  induction n with
  | zero =>
    intro x3 σ h
    cases h
  | succ n ih =>
    intro x3 σ h
    unfold f_X10_image_19 at h
    refine g_iload_n B d_X10_image_19 rfl rfl ?_
    refine g_bipush (v := 50) B d_X10_image_20 (by decide) ?_
    refine g_icmp_ge (tgt := 45) B d_X10_image_22 (by decide) h (fun h => ?_) (fun h => ?_)
    · refine g_iconst (v := 0) B d_X10_image_45 (by decide) ?_
      refine g_istore_n B d_X10_image_46 rfl (by decide) ?_
      exact g_cut rfl (t_X10_image_47 B En N x1 x2 N 0 σ h)
    · refine g_aload_n B d_X10_image_25 rfl rfl ?_
      refine g_get (ci := 10) (k := 20) (v := .ref (Z.1 96)) B d_X10_image_26 q_in10 rfl (by decide) rfl (by decide) w_WaterOthersModel_48 rfl rfl ?_
      refine g_iload_n B d_X10_image_29 rfl rfl ?_
      refine g_iload_n B d_X10_image_30 rfl rfl ?_
      refine g_iadd B d_X10_image_31 ?_
      refine g_aload_n B d_X10_image_32 rfl rfl ?_
      refine g_get (ci := 10) (k := 0) (v := .ref (Z.1 85)) B d_X10_image_33 q_in10 rfl (by decide) rfl (by decide) w_WaterOthersModel_7 rfl rfl ?_
      refine g_iload_n B d_X10_image_36 rfl rfl ?_
      obtain ⟨h37, h⟩ := q_chk h
      refine g_iald B d_X10_image_37 (by decide) (fun _ _ => rfl) h37 ?_
      obtain ⟨h38, h⟩ := q_chk h
      refine g_iast B d_X10_image_38 (by decide) (fun _ _ => rfl) h38 ?_
      refine g_iinc (v := (x3 + 1)) B d_X10_image_39 rfl rfl (by decide) ?_
      refine g_goto (tgt := 19) B d_X10_image_42 (by decide) ?_
      exact g_cut rfl (ih (x3 + 1) (q_w σ 96 ((x2 + x3) : Int32).toNatClampNeg (σ.1 85 (x3 : Int32).toNatClampNeg)) h)
set_option maxRecDepth 20000 in
theorem t_X10_image {Z : q_Z} {l : Launch} (N : Nat) (a0 : Int32)  (σ : q_S) {r : Int32} {σ' : q_S} (h : f_X10_image N a0 σ = some (r, σ')) : q_M Z l y_X10_image prog_12_method_50_code 4 (some .int) 2 [.ref (Z.1 84), .int a0] σ (some (.int r)) σ' := by
  refine q_met (by decide +kernel) (Nat.le_of_ble_eq_true rfl) (fun Γ hΓ B En => ?_)
  unfold f_X10_image at h
  refine g_cut (lv' := [(0, .ref (Z.1 84)), (1, .int a0)]) rfl ?_
  refine g_iload_n B d_X10_image_0 rfl rfl ?_
  refine g_iconst (v := 0) B d_X10_image_1 (by decide) ?_
  refine g_iconst (v := 1) B d_X10_image_2 (by decide) ?_
  refine g_callS (As := [.int a0, .int 0, .int 1]) (rest := []) B d_X10_image_3 (t_X10_in a0 0 1 σ rfl) m_X10_in w_WaterOthersModel_55 rfl rfl (Nat.le_of_ble_eq_true rfl) (by omega) (by decide) ?_
  refine g_if_ne (tgt := 12) B d_X10_image_6 (by decide) h (fun h => ?_) (fun h => ?_)
  · refine g_bipush (v := 90) B d_X10_image_12 (by decide) ?_
    refine g_iload_n B d_X10_image_14 rfl rfl ?_
    refine g_imul B d_X10_image_15 ?_
    refine g_istore_n B d_X10_image_16 rfl (by decide) ?_
    refine g_iconst (v := 0) B d_X10_image_17 (by decide) ?_
    refine g_istore_n B d_X10_image_18 rfl (by decide) ?_
    exact g_cut rfl (t_X10_image_19 B En N a0 (90 * a0) N 0 σ h)
  · refine g_bipush (v := (-2)) B d_X10_image_9 (by decide) ?_
    obtain ⟨rfl, rfl⟩ := q_ps h
    exact g_iret B En d_X10_image_11

def f_X10_restore_90 (N : Nat)  (x2 : Int32)  : Nat → Int32 → q_S → Option (Int32 × q_S)
  | 0, _, _ => none
  | n + 1, x3, σ =>
    if (16 : Int32) ≤ x3 then (if ¬ (((x2 + 80) : Int32) < 0 ∨ 180 ≤ ((x2 + 80) : Int32).toNatClampNeg) then if ¬ (((x2 + 81) : Int32) < 0 ∨ 180 ≤ ((x2 + 81) : Int32).toNatClampNeg) then if ¬ (((x2 + 82) : Int32) < 0 ∨ 180 ≤ ((x2 + 82) : Int32).toNatClampNeg) then if ¬ (((x2 + 83) : Int32) < 0 ∨ 180 ≤ ((x2 + 83) : Int32).toNatClampNeg) then some (1, (q_w (q_w (q_w (q_w σ 84 2 (σ.1 96 ((x2 + 80) : Int32).toNatClampNeg)) 84 4 ((q_w σ 84 2 (σ.1 96 ((x2 + 80) : Int32).toNatClampNeg)).1 96 ((x2 + 81) : Int32).toNatClampNeg)) 84 5 ((q_w (q_w σ 84 2 (σ.1 96 ((x2 + 80) : Int32).toNatClampNeg)) 84 4 ((q_w σ 84 2 (σ.1 96 ((x2 + 80) : Int32).toNatClampNeg)).1 96 ((x2 + 81) : Int32).toNatClampNeg)).1 96 ((x2 + 82) : Int32).toNatClampNeg)) 84 6 ((q_w (q_w (q_w σ 84 2 (σ.1 96 ((x2 + 80) : Int32).toNatClampNeg)) 84 4 ((q_w σ 84 2 (σ.1 96 ((x2 + 80) : Int32).toNatClampNeg)).1 96 ((x2 + 81) : Int32).toNatClampNeg)) 84 5 ((q_w (q_w σ 84 2 (σ.1 96 ((x2 + 80) : Int32).toNatClampNeg)) 84 4 ((q_w σ 84 2 (σ.1 96 ((x2 + 80) : Int32).toNatClampNeg)).1 96 ((x2 + 81) : Int32).toNatClampNeg)).1 96 ((x2 + 82) : Int32).toNatClampNeg)).1 96 ((x2 + 83) : Int32).toNatClampNeg))) else none else none else none else none)
    else (if ¬ ((((x2 + 56) + x3) : Int32) < 0 ∨ 180 ≤ (((x2 + 56) + x3) : Int32).toNatClampNeg) then if ¬ ((x3 : Int32) < 0 ∨ 16 ≤ (x3 : Int32).toNatClampNeg) then f_X10_restore_90 N x2 n (x3 + 1) (q_w σ 88 (x3 : Int32).toNatClampNeg (σ.1 96 (((x2 + 56) + x3) : Int32).toNatClampNeg)) else none else none)
def f_X10_restore_59 (N : Nat)  (x2 : Int32)  : Nat → Int32 → q_S → Option (Int32 × q_S)
  | 0, _, _ => none
  | n + 1, x3, σ =>
    if (6 : Int32) ≤ x3 then (f_X10_restore_90 N x2 N 0 σ)
    else (if ¬ ((((x2 + 50) + x3) : Int32) < 0 ∨ 180 ≤ (((x2 + 50) + x3) : Int32).toNatClampNeg) then if ¬ ((x3 : Int32) < 0 ∨ 6 ≤ (x3 : Int32).toNatClampNeg) then f_X10_restore_59 N x2 n (x3 + 1) (q_w σ 87 (x3 : Int32).toNatClampNeg (σ.1 96 (((x2 + 50) + x3) : Int32).toNatClampNeg)) else none else none)
def f_X10_restore_31 (N : Nat)  (x2 : Int32)  : Nat → Int32 → q_S → Option (Int32 × q_S)
  | 0, _, _ => none
  | n + 1, x3, σ =>
    if (50 : Int32) ≤ x3 then (f_X10_restore_59 N x2 N 0 σ)
    else (if ¬ (((x2 + x3) : Int32) < 0 ∨ 180 ≤ ((x2 + x3) : Int32).toNatClampNeg) then if ¬ ((x3 : Int32) < 0 ∨ 50 ≤ (x3 : Int32).toNatClampNeg) then f_X10_restore_31 N x2 n (x3 + 1) (q_w σ 85 (x3 : Int32).toNatClampNeg (σ.1 96 ((x2 + x3) : Int32).toNatClampNeg)) else none else none)
def f_X10_restore (N : Nat) (a0 : Int32) (σ : q_S) : Option (Int32 × q_S) :=
  if (f_X10_in a0 0 1) = 0 then (some ((-2), σ))
  else (if ¬ ((a0 : Int32) < 0 ∨ 2 ≤ (a0 : Int32).toNatClampNeg) then if (σ.1 97 (a0 : Int32).toNatClampNeg) = 0 then (some ((-3), σ))
    else (f_X10_restore_31 N (90 * a0) N 0 σ) else none)
set_option maxRecDepth 20000 in
theorem t_X10_restore_90 {Z : q_Z} {Γ : q_C} {r : Int32} {σ' : q_S} (B : q_B Z Γ prog_12_method_51_code "WaterOthersModel" 4 2) (En : q_E Z Γ (some .int) (some (.int r)) σ') (N : Nat)  (x2 : Int32)   : ∀ (n : Nat) (x3 : Int32) (σ : q_S), f_X10_restore_90 N x2 n x3 σ = some (r, σ') → q_G Z Γ 4 σ 90 [(0, .ref (Z.1 84)), (2, .int x2), (3, .int x3)] [] := by
  intro n
  induction n with
  | zero =>
    intro x3 σ h
    cases h
  | succ n ih =>
    intro x3 σ h
    unfold f_X10_restore_90 at h
    refine g_iload_n B d_X10_restore_90 rfl rfl ?_
    refine g_bipush (v := 16) B d_X10_restore_91 (by decide) ?_
    refine g_icmp_ge (tgt := 119) B d_X10_restore_93 (by decide) h (fun h => ?_) (fun h => ?_)
    · refine g_aload_n B d_X10_restore_119 rfl rfl ?_
      refine g_aload_n B d_X10_restore_120 rfl rfl ?_
      refine g_get (ci := 10) (k := 20) (v := .ref (Z.1 96)) B d_X10_restore_121 q_in10 rfl (by decide) rfl (by decide) w_WaterOthersModel_48 rfl rfl ?_
      refine g_iload_n B d_X10_restore_124 rfl rfl ?_
      refine g_bipush (v := 80) B d_X10_restore_125 (by decide) ?_
      refine g_iadd B d_X10_restore_127 ?_
      obtain ⟨h128, h⟩ := q_chk h
      refine g_iald B d_X10_restore_128 (by decide) (fun _ _ => rfl) h128 ?_
      refine g_put (ci := 10) (k := 2) (v := (σ.1 96 ((x2 + 80) : Int32).toNatClampNeg)) (ty := .int) B d_X10_restore_129 q_in10 rfl q_yk10 q_nm10 (by decide) (fun _ _ => rfl) (by decide) w_WaterOthersModel_59 rfl rfl rfl rfl rfl (Nat.le_of_ble_eq_true rfl) (fun _ _ => rfl) ?_
      refine g_aload_n B d_X10_restore_132 rfl rfl ?_
      refine g_aload_n B d_X10_restore_133 rfl rfl ?_
      refine g_get (ci := 10) (k := 20) (v := .ref (Z.1 96)) B d_X10_restore_134 q_in10 rfl (by decide) rfl (by decide) w_WaterOthersModel_48 rfl rfl ?_
      refine g_iload_n B d_X10_restore_137 rfl rfl ?_
      refine g_bipush (v := 81) B d_X10_restore_138 (by decide) ?_
      refine g_iadd B d_X10_restore_140 ?_
      obtain ⟨h141, h⟩ := q_chk h
      refine g_iald B d_X10_restore_141 (by decide) (fun _ _ => rfl) h141 ?_
      refine g_put (ci := 10) (k := 4) (v := ((q_w σ 84 2 (σ.1 96 ((x2 + 80) : Int32).toNatClampNeg)).1 96 ((x2 + 81) : Int32).toNatClampNeg)) (ty := .int) B d_X10_restore_142 q_in10 rfl q_yk10 q_nm10 (by decide) (fun _ _ => rfl) (by decide) w_WaterOthersModel_70 rfl rfl rfl rfl rfl (Nat.le_of_ble_eq_true rfl) (fun _ _ => rfl) ?_
      refine g_aload_n B d_X10_restore_145 rfl rfl ?_
      refine g_aload_n B d_X10_restore_146 rfl rfl ?_
      refine g_get (ci := 10) (k := 20) (v := .ref (Z.1 96)) B d_X10_restore_147 q_in10 rfl (by decide) rfl (by decide) w_WaterOthersModel_48 rfl rfl ?_
      refine g_iload_n B d_X10_restore_150 rfl rfl ?_
      refine g_bipush (v := 82) B d_X10_restore_151 (by decide) ?_
      refine g_iadd B d_X10_restore_153 ?_
      obtain ⟨h154, h⟩ := q_chk h
      refine g_iald B d_X10_restore_154 (by decide) (fun _ _ => rfl) h154 ?_
      refine g_put (ci := 10) (k := 5) (v := ((q_w (q_w σ 84 2 (σ.1 96 ((x2 + 80) : Int32).toNatClampNeg)) 84 4 ((q_w σ 84 2 (σ.1 96 ((x2 + 80) : Int32).toNatClampNeg)).1 96 ((x2 + 81) : Int32).toNatClampNeg)).1 96 ((x2 + 82) : Int32).toNatClampNeg)) (ty := .int) B d_X10_restore_155 q_in10 rfl q_yk10 q_nm10 (by decide) (fun _ _ => rfl) (by decide) w_WaterOthersModel_19 rfl rfl rfl rfl rfl (Nat.le_of_ble_eq_true rfl) (fun _ _ => rfl) ?_
      refine g_aload_n B d_X10_restore_158 rfl rfl ?_
      refine g_aload_n B d_X10_restore_159 rfl rfl ?_
      refine g_get (ci := 10) (k := 20) (v := .ref (Z.1 96)) B d_X10_restore_160 q_in10 rfl (by decide) rfl (by decide) w_WaterOthersModel_48 rfl rfl ?_
      refine g_iload_n B d_X10_restore_163 rfl rfl ?_
      refine g_bipush (v := 83) B d_X10_restore_164 (by decide) ?_
      refine g_iadd B d_X10_restore_166 ?_
      obtain ⟨h167, h⟩ := q_chk h
      refine g_iald B d_X10_restore_167 (by decide) (fun _ _ => rfl) h167 ?_
      refine g_put (ci := 10) (k := 6) (v := ((q_w (q_w (q_w σ 84 2 (σ.1 96 ((x2 + 80) : Int32).toNatClampNeg)) 84 4 ((q_w σ 84 2 (σ.1 96 ((x2 + 80) : Int32).toNatClampNeg)).1 96 ((x2 + 81) : Int32).toNatClampNeg)) 84 5 ((q_w (q_w σ 84 2 (σ.1 96 ((x2 + 80) : Int32).toNatClampNeg)) 84 4 ((q_w σ 84 2 (σ.1 96 ((x2 + 80) : Int32).toNatClampNeg)).1 96 ((x2 + 81) : Int32).toNatClampNeg)).1 96 ((x2 + 82) : Int32).toNatClampNeg)).1 96 ((x2 + 83) : Int32).toNatClampNeg)) (ty := .int) B d_X10_restore_168 q_in10 rfl q_yk10 q_nm10 (by decide) (fun _ _ => rfl) (by decide) w_WaterOthersModel_155 rfl rfl rfl rfl rfl (Nat.le_of_ble_eq_true rfl) (fun _ _ => rfl) ?_
      refine g_iconst (v := 1) B d_X10_restore_171 (by decide) ?_
      obtain ⟨rfl, rfl⟩ := q_ps h
      exact g_iret B En d_X10_restore_172
    · refine g_aload_n B d_X10_restore_96 rfl rfl ?_
      refine g_get (ci := 10) (k := 7) (v := .ref (Z.1 88)) B d_X10_restore_97 q_in10 rfl (by decide) rfl (by decide) w_WaterOthersModel_23 rfl rfl ?_
      refine g_iload_n B d_X10_restore_100 rfl rfl ?_
      refine g_aload_n B d_X10_restore_101 rfl rfl ?_
      refine g_get (ci := 10) (k := 20) (v := .ref (Z.1 96)) B d_X10_restore_102 q_in10 rfl (by decide) rfl (by decide) w_WaterOthersModel_48 rfl rfl ?_
      refine g_iload_n B d_X10_restore_105 rfl rfl ?_
      refine g_bipush (v := 56) B d_X10_restore_106 (by decide) ?_
      refine g_iadd B d_X10_restore_108 ?_
      refine g_iload_n B d_X10_restore_109 rfl rfl ?_
      refine g_iadd B d_X10_restore_110 ?_
      obtain ⟨h111, h⟩ := q_chk h
      refine g_iald B d_X10_restore_111 (by decide) (fun _ _ => rfl) h111 ?_
      obtain ⟨h112, h⟩ := q_chk h
      refine g_iast B d_X10_restore_112 (by decide) (fun _ _ => rfl) h112 ?_
      refine g_iinc (v := (x3 + 1)) B d_X10_restore_113 rfl rfl (by decide) ?_
      refine g_goto (tgt := 90) B d_X10_restore_116 (by decide) ?_
      exact g_cut rfl (ih (x3 + 1) (q_w σ 88 (x3 : Int32).toNatClampNeg (σ.1 96 (((x2 + 56) + x3) : Int32).toNatClampNeg)) h)
set_option maxRecDepth 20000 in
theorem t_X10_restore_59 {Z : q_Z} {Γ : q_C} {r : Int32} {σ' : q_S} (B : q_B Z Γ prog_12_method_51_code "WaterOthersModel" 4 2) (En : q_E Z Γ (some .int) (some (.int r)) σ') (N : Nat)  (x2 : Int32)   : ∀ (n : Nat) (x3 : Int32) (σ : q_S), f_X10_restore_59 N x2 n x3 σ = some (r, σ') → q_G Z Γ 4 σ 59 [(0, .ref (Z.1 84)), (2, .int x2), (3, .int x3)] [] := by
  intro n
  induction n with
  | zero =>
    intro x3 σ h
    cases h
  | succ n ih =>
    intro x3 σ h
    unfold f_X10_restore_59 at h
    refine g_iload_n B d_X10_restore_59 rfl rfl ?_
    refine g_bipush (v := 6) B d_X10_restore_60 (by decide) ?_
    refine g_icmp_ge (tgt := 88) B d_X10_restore_62 (by decide) h (fun h => ?_) (fun h => ?_)
    · refine g_iconst (v := 0) B d_X10_restore_88 (by decide) ?_
      refine g_istore_n B d_X10_restore_89 rfl (by decide) ?_
      exact g_cut rfl (t_X10_restore_90 B En N x2 N 0 σ h)
    · refine g_aload_n B d_X10_restore_65 rfl rfl ?_
      refine g_get (ci := 10) (k := 3) (v := .ref (Z.1 87)) B d_X10_restore_66 q_in10 rfl (by decide) rfl (by decide) w_WaterOthersModel_16 rfl rfl ?_
      refine g_iload_n B d_X10_restore_69 rfl rfl ?_
      refine g_aload_n B d_X10_restore_70 rfl rfl ?_
      refine g_get (ci := 10) (k := 20) (v := .ref (Z.1 96)) B d_X10_restore_71 q_in10 rfl (by decide) rfl (by decide) w_WaterOthersModel_48 rfl rfl ?_
      refine g_iload_n B d_X10_restore_74 rfl rfl ?_
      refine g_bipush (v := 50) B d_X10_restore_75 (by decide) ?_
      refine g_iadd B d_X10_restore_77 ?_
      refine g_iload_n B d_X10_restore_78 rfl rfl ?_
      refine g_iadd B d_X10_restore_79 ?_
      obtain ⟨h80, h⟩ := q_chk h
      refine g_iald B d_X10_restore_80 (by decide) (fun _ _ => rfl) h80 ?_
      obtain ⟨h81, h⟩ := q_chk h
      refine g_iast B d_X10_restore_81 (by decide) (fun _ _ => rfl) h81 ?_
      refine g_iinc (v := (x3 + 1)) B d_X10_restore_82 rfl rfl (by decide) ?_
      refine g_goto (tgt := 59) B d_X10_restore_85 (by decide) ?_
      exact g_cut rfl (ih (x3 + 1) (q_w σ 87 (x3 : Int32).toNatClampNeg (σ.1 96 (((x2 + 50) + x3) : Int32).toNatClampNeg)) h)
set_option maxRecDepth 20000 in
theorem t_X10_restore_31 {Z : q_Z} {Γ : q_C} {r : Int32} {σ' : q_S} (B : q_B Z Γ prog_12_method_51_code "WaterOthersModel" 4 2) (En : q_E Z Γ (some .int) (some (.int r)) σ') (N : Nat)  (x2 : Int32)   : ∀ (n : Nat) (x3 : Int32) (σ : q_S), f_X10_restore_31 N x2 n x3 σ = some (r, σ') → q_G Z Γ 4 σ 31 [(0, .ref (Z.1 84)), (2, .int x2), (3, .int x3)] [] := by
  intro n
  induction n with
  | zero =>
    intro x3 σ h
    cases h
  | succ n ih =>
    intro x3 σ h
    unfold f_X10_restore_31 at h
    refine g_iload_n B d_X10_restore_31 rfl rfl ?_
    refine g_bipush (v := 50) B d_X10_restore_32 (by decide) ?_
    refine g_icmp_ge (tgt := 57) B d_X10_restore_34 (by decide) h (fun h => ?_) (fun h => ?_)
    · refine g_iconst (v := 0) B d_X10_restore_57 (by decide) ?_
      refine g_istore_n B d_X10_restore_58 rfl (by decide) ?_
      exact g_cut rfl (t_X10_restore_59 B En N x2 N 0 σ h)
    · refine g_aload_n B d_X10_restore_37 rfl rfl ?_
      refine g_get (ci := 10) (k := 0) (v := .ref (Z.1 85)) B d_X10_restore_38 q_in10 rfl (by decide) rfl (by decide) w_WaterOthersModel_7 rfl rfl ?_
      refine g_iload_n B d_X10_restore_41 rfl rfl ?_
      refine g_aload_n B d_X10_restore_42 rfl rfl ?_
      refine g_get (ci := 10) (k := 20) (v := .ref (Z.1 96)) B d_X10_restore_43 q_in10 rfl (by decide) rfl (by decide) w_WaterOthersModel_48 rfl rfl ?_
      refine g_iload_n B d_X10_restore_46 rfl rfl ?_
      refine g_iload_n B d_X10_restore_47 rfl rfl ?_
      refine g_iadd B d_X10_restore_48 ?_
      obtain ⟨h49, h⟩ := q_chk h
      refine g_iald B d_X10_restore_49 (by decide) (fun _ _ => rfl) h49 ?_
      obtain ⟨h50, h⟩ := q_chk h
      refine g_iast B d_X10_restore_50 (by decide) (fun _ _ => rfl) h50 ?_
      refine g_iinc (v := (x3 + 1)) B d_X10_restore_51 rfl rfl (by decide) ?_
      refine g_goto (tgt := 31) B d_X10_restore_54 (by decide) ?_
      exact g_cut rfl (ih (x3 + 1) (q_w σ 85 (x3 : Int32).toNatClampNeg (σ.1 96 ((x2 + x3) : Int32).toNatClampNeg)) h)
set_option maxRecDepth 20000 in
theorem t_X10_restore {Z : q_Z} {l : Launch} (N : Nat) (a0 : Int32)  (σ : q_S) {r : Int32} {σ' : q_S} (h : f_X10_restore N a0 σ = some (r, σ')) : q_M Z l y_X10_restore prog_12_method_51_code 4 (some .int) 2 [.ref (Z.1 84), .int a0] σ (some (.int r)) σ' := by
  refine q_met (by decide +kernel) (Nat.le_of_ble_eq_true rfl) (fun Γ hΓ B En => ?_)
  unfold f_X10_restore at h
  refine g_cut (lv' := [(0, .ref (Z.1 84)), (1, .int a0)]) rfl ?_
  refine g_iload_n B d_X10_restore_0 rfl rfl ?_
  refine g_iconst (v := 0) B d_X10_restore_1 (by decide) ?_
  refine g_iconst (v := 1) B d_X10_restore_2 (by decide) ?_
  refine g_callS (As := [.int a0, .int 0, .int 1]) (rest := []) B d_X10_restore_3 (t_X10_in a0 0 1 σ rfl) m_X10_in w_WaterOthersModel_55 rfl rfl (Nat.le_of_ble_eq_true rfl) (by omega) (by decide) ?_
  refine g_if_ne (tgt := 12) B d_X10_restore_6 (by decide) h (fun h => ?_) (fun h => ?_)
  · refine g_aload_n B d_X10_restore_12 rfl rfl ?_
    refine g_get (ci := 10) (k := 21) (v := .ref (Z.1 97)) B d_X10_restore_13 q_in10 rfl (by decide) rfl (by decide) w_WaterOthersModel_51 rfl rfl ?_
    refine g_iload_n B d_X10_restore_16 rfl rfl ?_
    obtain ⟨h17, h⟩ := q_chk h
    refine g_zald B d_X10_restore_17 (by decide) (fun _ _ => rfl) h17 ?_
    refine g_if_ne (tgt := 24) B d_X10_restore_18 (by decide) h (fun h => ?_) (fun h => ?_)
    · refine g_bipush (v := 90) B d_X10_restore_24 (by decide) ?_
      refine g_iload_n B d_X10_restore_26 rfl rfl ?_
      refine g_imul B d_X10_restore_27 ?_
      refine g_istore_n B d_X10_restore_28 rfl (by decide) ?_
      refine g_iconst (v := 0) B d_X10_restore_29 (by decide) ?_
      refine g_istore_n B d_X10_restore_30 rfl (by decide) ?_
      exact g_cut rfl (t_X10_restore_31 B En N (90 * a0) N 0 σ h)
    · refine g_bipush (v := (-3)) B d_X10_restore_21 (by decide) ?_
      obtain ⟨rfl, rfl⟩ := q_ps h
      exact g_iret B En d_X10_restore_23
  · refine g_bipush (v := (-2)) B d_X10_restore_9 (by decide) ?_
    obtain ⟨rfl, rfl⟩ := q_ps h
    exact g_iret B En d_X10_restore_11

def f_X10_told_148 (N : Nat)  (x1 : Int32) (x2 : Int32) (σ : q_S) : Option (Int32 × q_S) :=
  if ¬ (((((6 * x2) + (q_rem x1 10)) - 3) : Int32) < 0 ∨ 50 ≤ ((((6 * x2) + (q_rem x1 10)) - 3) : Int32).toNatClampNeg) then some ((σ.1 86 ((((6 * x2) + (q_rem x1 10)) - 3) : Int32).toNatClampNeg), σ) else none
def f_X10_told (N : Nat) (a0 : Int32) (σ : q_S) : Option (Int32 × q_S) :=
  if a0 < 10 then (if a0 = 0 then (some ((σ.1 84 8), σ))
    else if a0 = 1 then (some ((σ.1 84 2), σ))
    else if a0 = 2 then (some ((σ.1 84 4), σ))
    else if a0 = 3 then (some ((σ.1 84 5), σ))
    else if a0 = 4 then (if ¬ (((44 + a0) : Int32) < 0 ∨ 50 ≤ ((44 + a0) : Int32).toNatClampNeg) then some ((σ.1 85 ((44 + a0) : Int32).toNatClampNeg), σ) else none)
    else if a0 = 5 then (if ¬ (((44 + a0) : Int32) < 0 ∨ 50 ≤ ((44 + a0) : Int32).toNatClampNeg) then some ((σ.1 85 ((44 + a0) : Int32).toNatClampNeg), σ) else none)
    else (if a0 = 6 then (some ((σ.1 84 6), σ))
                else (some ((-2), σ))))
  else (if (f_X10_isThere ((a0 / 10) - 1) σ) = 0 then (some ((-2), σ))
    else ((f_X10_asNow N σ).bind fun z25 =>
      if (q_rem a0 10) = 0 then (if ¬ (((6 * ((a0 / 10) - 1)) : Int32) < 0 ∨ 50 ≤ ((6 * ((a0 / 10) - 1)) : Int32).toNatClampNeg) then some ((z25.1 86 ((6 * ((a0 / 10) - 1)) : Int32).toNatClampNeg), z25) else none)
      else if (q_rem a0 10) = 1 then (if ¬ ((((a0 / 10) - 1) : Int32) < 0 ∨ 6 ≤ (((a0 / 10) - 1) : Int32).toNatClampNeg) then some ((z25.1 87 (((a0 / 10) - 1) : Int32).toNatClampNeg), z25) else none)
      else if (q_rem a0 10) = 2 then ((f_X10_otherOf ((a0 / 10) - 1) z25).bind fun z107 =>
            some (z107, z25))
      else if (q_rem a0 10) = 3 then ((f_X10_hasParted ((a0 / 10) - 1) z25).bind fun z113 =>
              if z113 = 0 then (some (0, z25))
              else (some (1, z25)))
      else if (q_rem a0 10) = 4 then (f_X10_told_148 N a0 ((a0 / 10) - 1) z25)
      else if (q_rem a0 10) = 5 then (f_X10_told_148 N a0 ((a0 / 10) - 1) z25)
      else if (q_rem a0 10) = 6 then (f_X10_told_148 N a0 ((a0 / 10) - 1) z25)
      else if (q_rem a0 10) = 7 then (f_X10_told_148 N a0 ((a0 / 10) - 1) z25)
      else if (q_rem a0 10) = 8 then (f_X10_told_148 N a0 ((a0 / 10) - 1) z25)
      else if (q_rem a0 10) = 9 then ((f_X10_hasParted ((a0 / 10) - 1) z25).bind fun z127 =>
                          if z127 = 0 then (some ((-6), z25))
                          else (if ¬ (((42 + ((a0 / 10) - 1)) : Int32) < 0 ∨ 50 ≤ ((42 + ((a0 / 10) - 1)) : Int32).toNatClampNeg) then some ((z25.1 86 ((42 + ((a0 / 10) - 1)) : Int32).toNatClampNeg), z25) else none))
      else (f_X10_told_148 N a0 ((a0 / 10) - 1) z25)))
set_option maxRecDepth 20000 in
theorem t_X10_told_148 {Z : q_Z} {Γ : q_C} {r : Int32} {σ' : q_S} (B : q_B Z Γ prog_12_method_52_code "WaterOthersModel" 3 3) (En : q_E Z Γ (some .int) (some (.int r)) σ') (N : Nat)  (x1 : Int32) (x2 : Int32)  (σ : q_S)  (h : f_X10_told_148 N x1 x2 σ = some (r, σ')) : q_G Z Γ 3 σ 148 [(0, .ref (Z.1 84)), (1, .int x1), (2, .int x2)] [] := by
  unfold f_X10_told_148 at h
  refine g_aload_n B d_X10_told_148 rfl rfl ?_
  refine g_get (ci := 10) (k := 1) (v := .ref (Z.1 86)) B d_X10_told_149 q_in10 rfl (by decide) rfl (by decide) w_WaterOthersModel_13 rfl rfl ?_
  refine g_bipush (v := 6) B d_X10_told_152 (by decide) ?_
  refine g_iload_n B d_X10_told_154 rfl rfl ?_
  refine g_imul B d_X10_told_155 ?_
  refine g_iload_n B d_X10_told_156 rfl rfl ?_
  refine g_bipush (v := 10) B d_X10_told_157 (by decide) ?_
  refine g_irem B d_X10_told_159 (by decide) ?_
  refine g_iadd B d_X10_told_160 ?_
  refine g_iconst (v := 3) B d_X10_told_161 (by decide) ?_
  refine g_isub B d_X10_told_162 ?_
  obtain ⟨h163, h⟩ := q_chk h
  refine g_iald B d_X10_told_163 (by decide) (fun _ _ => rfl) h163 ?_
  obtain ⟨rfl, rfl⟩ := q_ps h
  exact g_iret B En d_X10_told_164
set_option maxRecDepth 20000 in
theorem t_X10_told {Z : q_Z} {l : Launch} (N : Nat) (a0 : Int32)  (σ : q_S) {r : Int32} {σ' : q_S} (h : f_X10_told N a0 σ = some (r, σ')) : q_M Z l y_X10_told prog_12_method_52_code 3 (some .int) 3 [.ref (Z.1 84), .int a0] σ (some (.int r)) σ' := by
  refine q_met (by decide +kernel) (Nat.le_of_ble_eq_true rfl) (fun Γ hΓ B En => ?_)
  unfold f_X10_told at h
  refine g_cut (lv' := [(0, .ref (Z.1 84)), (1, .int a0)]) rfl ?_
  refine g_iload_n B d_X10_told_0 rfl rfl ?_
  refine g_bipush (v := 10) B d_X10_told_1 (by decide) ?_
  refine g_icmp_lt (tgt := 165) B d_X10_told_3 (by decide) h (fun h => ?_) (fun h => ?_)
  · refine g_iload_n B d_X10_told_165 rfl rfl ?_
    refine q_sw h (fun e166_0 h => ?_) (fun e166_0 h => ?_)
    · refine g_tswIn (c0 := 0) (tgt := 204) B d_X10_told_166 e166_0 (by decide) (by decide) rfl (by decide) ?_
      refine g_aload_n B d_X10_told_204 rfl rfl ?_
      refine g_get (ci := 10) (k := 8) B d_X10_told_205 q_in10 rfl (by decide) rfl (by decide) w_WaterOthersModel_80 rfl rfl ?_
      obtain ⟨rfl, rfl⟩ := q_ps h
      exact g_iret B En d_X10_told_208
    · skip
      refine q_sw h (fun e166_1 h => ?_) (fun e166_1 h => ?_)
      · refine g_tswIn (c0 := 1) (tgt := 209) B d_X10_told_166 e166_1 (by decide) (by decide) rfl (by decide) ?_
        refine g_aload_n B d_X10_told_209 rfl rfl ?_
        refine g_get (ci := 10) (k := 2) B d_X10_told_210 q_in10 rfl (by decide) rfl (by decide) w_WaterOthersModel_59 rfl rfl ?_
        obtain ⟨rfl, rfl⟩ := q_ps h
        exact g_iret B En d_X10_told_213
      · skip
        refine q_sw h (fun e166_2 h => ?_) (fun e166_2 h => ?_)
        · refine g_tswIn (c0 := 2) (tgt := 214) B d_X10_told_166 e166_2 (by decide) (by decide) rfl (by decide) ?_
          refine g_aload_n B d_X10_told_214 rfl rfl ?_
          refine g_get (ci := 10) (k := 4) B d_X10_told_215 q_in10 rfl (by decide) rfl (by decide) w_WaterOthersModel_70 rfl rfl ?_
          obtain ⟨rfl, rfl⟩ := q_ps h
          exact g_iret B En d_X10_told_218
        · skip
          refine q_sw h (fun e166_3 h => ?_) (fun e166_3 h => ?_)
          · refine g_tswIn (c0 := 3) (tgt := 219) B d_X10_told_166 e166_3 (by decide) (by decide) rfl (by decide) ?_
            refine g_aload_n B d_X10_told_219 rfl rfl ?_
            refine g_get (ci := 10) (k := 5) B d_X10_told_220 q_in10 rfl (by decide) rfl (by decide) w_WaterOthersModel_19 rfl rfl ?_
            obtain ⟨rfl, rfl⟩ := q_ps h
            exact g_iret B En d_X10_told_223
          · skip
            refine q_sw h (fun e166_4 h => ?_) (fun e166_4 h => ?_)
            · refine g_tswIn (c0 := 4) (tgt := 224) B d_X10_told_166 e166_4 (by decide) (by decide) rfl (by decide) ?_
              refine g_aload_n B d_X10_told_224 rfl rfl ?_
              refine g_get (ci := 10) (k := 0) (v := .ref (Z.1 85)) B d_X10_told_225 q_in10 rfl (by decide) rfl (by decide) w_WaterOthersModel_7 rfl rfl ?_
              refine g_bipush (v := 44) B d_X10_told_228 (by decide) ?_
              refine g_iload_n B d_X10_told_230 rfl rfl ?_
              refine g_iadd B d_X10_told_231 ?_
              obtain ⟨h232, h⟩ := q_chk h
              refine g_iald B d_X10_told_232 (by decide) (fun _ _ => rfl) h232 ?_
              obtain ⟨rfl, rfl⟩ := q_ps h
              exact g_iret B En d_X10_told_233
            · skip
              refine q_sw h (fun e166_5 h => ?_) (fun e166_5 h => ?_)
              · refine g_tswIn (c0 := 5) (tgt := 224) B d_X10_told_166 e166_5 (by decide) (by decide) rfl (by decide) ?_
                refine g_aload_n B d_X10_told_224 rfl rfl ?_
                refine g_get (ci := 10) (k := 0) (v := .ref (Z.1 85)) B d_X10_told_225 q_in10 rfl (by decide) rfl (by decide) w_WaterOthersModel_7 rfl rfl ?_
                refine g_bipush (v := 44) B d_X10_told_228 (by decide) ?_
                refine g_iload_n B d_X10_told_230 rfl rfl ?_
                refine g_iadd B d_X10_told_231 ?_
                obtain ⟨h232, h⟩ := q_chk h
                refine g_iald B d_X10_told_232 (by decide) (fun _ _ => rfl) h232 ?_
                obtain ⟨rfl, rfl⟩ := q_ps h
                exact g_iret B En d_X10_told_233
              · skip
                have ze166_0 := q_ne (n := 0) e166_0 (by decide)
                have ze166_1 := q_ne (n := 1) e166_1 (by decide)
                have ze166_2 := q_ne (n := 2) e166_2 (by decide)
                have ze166_3 := q_ne (n := 3) e166_3 (by decide)
                have ze166_4 := q_ne (n := 4) e166_4 (by decide)
                have ze166_5 := q_ne (n := 5) e166_5 (by decide)
                refine g_tswOut (tgt := 234) B d_X10_told_166 (by change (a0 : Int32).toInt < _ ∨ _ < (a0 : Int32).toInt; omega) (by decide) ?_
                refine g_iload_n B d_X10_told_234 rfl rfl ?_
                refine g_bipush (v := 6) B d_X10_told_235 (by decide) ?_
                refine g_icmp_ne (tgt := 247) B d_X10_told_237 (by decide) h (fun h => ?_) (fun h => ?_)
                · refine g_bipush (v := (-2)) B d_X10_told_247 (by decide) ?_
                  obtain ⟨rfl, rfl⟩ := q_ps h
                  exact g_iret B En d_X10_told_249
                · refine g_aload_n B d_X10_told_240 rfl rfl ?_
                  refine g_get (ci := 10) (k := 6) B d_X10_told_241 q_in10 rfl (by decide) rfl (by decide) w_WaterOthersModel_155 rfl rfl ?_
                  refine g_goto (tgt := 249) B d_X10_told_244 (by decide) ?_
                  obtain ⟨rfl, rfl⟩ := q_ps h
                  exact g_iret B En d_X10_told_249
  · refine g_iload_n B d_X10_told_6 rfl rfl ?_
    refine g_bipush (v := 10) B d_X10_told_7 (by decide) ?_
    refine g_idiv B d_X10_told_9 (by decide) ?_
    refine g_iconst (v := 1) B d_X10_told_10 (by decide) ?_
    refine g_isub B d_X10_told_11 ?_
    refine g_istore_n B d_X10_told_12 rfl (by decide) ?_
    refine g_aload_n B d_X10_told_13 rfl rfl ?_
    refine g_iload_n B d_X10_told_14 rfl rfl ?_
    refine g_callV (p0 := 84) (ci := 10) (As := [.int ((a0 / 10) - 1)]) (rest := []) B d_X10_told_15 (t_X10_isThere ((a0 / 10) - 1) σ rfl) m_X10_isThere w_WaterOthersModel_77 (by decide) rfl rfl rfl rfl (Nat.le_of_ble_eq_true rfl) (by omega) (by decide) ?_
    refine g_if_ne (tgt := 24) B d_X10_told_18 (by decide) h (fun h => ?_) (fun h => ?_)
    · refine g_aload_n B d_X10_told_24 rfl rfl ?_
      obtain ⟨z25, g25, h⟩ := q_bind h
      refine g_callV (p0 := 84) (ci := 10) (As := []) (rest := []) B d_X10_told_25 (t_X10_asNow N σ g25) m_X10_asNow w_WaterOthersModel_117 (by decide) rfl rfl rfl rfl (Nat.le_of_ble_eq_true rfl) (by omega) (by decide) ?_
      refine g_iload_n B d_X10_told_28 rfl rfl ?_
      refine g_bipush (v := 10) B d_X10_told_29 (by decide) ?_
      refine g_irem B d_X10_told_31 (by decide) ?_
      refine q_sw h (fun e32_0 h => ?_) (fun e32_0 h => ?_)
      · refine g_tswIn (c0 := 0) (tgt := 88) B d_X10_told_32 e32_0 (by decide) (by decide) rfl (by decide) ?_
        refine g_aload_n B d_X10_told_88 rfl rfl ?_
        refine g_get (ci := 10) (k := 1) (v := .ref (Z.1 86)) B d_X10_told_89 q_in10 rfl (by decide) rfl (by decide) w_WaterOthersModel_13 rfl rfl ?_
        refine g_bipush (v := 6) B d_X10_told_92 (by decide) ?_
        refine g_iload_n B d_X10_told_94 rfl rfl ?_
        refine g_imul B d_X10_told_95 ?_
        obtain ⟨h96, h⟩ := q_chk h
        refine g_iald B d_X10_told_96 (by decide) (fun _ _ => rfl) h96 ?_
        obtain ⟨rfl, rfl⟩ := q_ps h
        exact g_iret B En d_X10_told_97
      · skip
        refine q_sw h (fun e32_1 h => ?_) (fun e32_1 h => ?_)
        · refine g_tswIn (c0 := 1) (tgt := 98) B d_X10_told_32 e32_1 (by decide) (by decide) rfl (by decide) ?_
          refine g_aload_n B d_X10_told_98 rfl rfl ?_
          refine g_get (ci := 10) (k := 3) (v := .ref (Z.1 87)) B d_X10_told_99 q_in10 rfl (by decide) rfl (by decide) w_WaterOthersModel_16 rfl rfl ?_
          refine g_iload_n B d_X10_told_102 rfl rfl ?_
          obtain ⟨h103, h⟩ := q_chk h
          refine g_iald B d_X10_told_103 (by decide) (fun _ _ => rfl) h103 ?_
          obtain ⟨rfl, rfl⟩ := q_ps h
          exact g_iret B En d_X10_told_104
        · skip
          refine q_sw h (fun e32_2 h => ?_) (fun e32_2 h => ?_)
          · refine g_tswIn (c0 := 2) (tgt := 105) B d_X10_told_32 e32_2 (by decide) (by decide) rfl (by decide) ?_
            refine g_aload_n B d_X10_told_105 rfl rfl ?_
            refine g_iload_n B d_X10_told_106 rfl rfl ?_
            obtain ⟨z107, g107, h⟩ := q_bind h
            refine g_callV (p0 := 84) (ci := 10) (As := [.int ((a0 / 10) - 1)]) (rest := []) B d_X10_told_107 (t_X10_otherOf ((a0 / 10) - 1) z25 g107) m_X10_otherOf w_WaterOthersModel_96 (by decide) rfl rfl rfl rfl (Nat.le_of_ble_eq_true rfl) (by omega) (by decide) ?_
            obtain ⟨rfl, rfl⟩ := q_ps h
            exact g_iret B En d_X10_told_110
          · skip
            refine q_sw h (fun e32_3 h => ?_) (fun e32_3 h => ?_)
            · refine g_tswIn (c0 := 3) (tgt := 111) B d_X10_told_32 e32_3 (by decide) (by decide) rfl (by decide) ?_
              refine g_aload_n B d_X10_told_111 rfl rfl ?_
              refine g_iload_n B d_X10_told_112 rfl rfl ?_
              obtain ⟨z113, g113, h⟩ := q_bind h
              refine g_callV (p0 := 84) (ci := 10) (As := [.int ((a0 / 10) - 1)]) (rest := []) B d_X10_told_113 (t_X10_hasParted ((a0 / 10) - 1) z25 g113) m_X10_hasParted w_WaterOthersModel_93 (by decide) rfl rfl rfl rfl (Nat.le_of_ble_eq_true rfl) (by omega) (by decide) ?_
              refine g_if_eq (tgt := 123) B d_X10_told_116 (by decide) h (fun h => ?_) (fun h => ?_)
              · refine g_iconst (v := 0) B d_X10_told_123 (by decide) ?_
                obtain ⟨rfl, rfl⟩ := q_ps h
                exact g_iret B En d_X10_told_124
              · refine g_iconst (v := 1) B d_X10_told_119 (by decide) ?_
                refine g_goto (tgt := 124) B d_X10_told_120 (by decide) ?_
                obtain ⟨rfl, rfl⟩ := q_ps h
                exact g_iret B En d_X10_told_124
            · skip
              refine q_sw h (fun e32_4 h => ?_) (fun e32_4 h => ?_)
              · refine g_tswIn (c0 := 4) (tgt := 148) B d_X10_told_32 e32_4 (by decide) (by decide) rfl (by decide) ?_
                exact g_cut rfl (t_X10_told_148 B En N a0 ((a0 / 10) - 1) z25 h)
              · skip
                refine q_sw h (fun e32_5 h => ?_) (fun e32_5 h => ?_)
                · refine g_tswIn (c0 := 5) (tgt := 148) B d_X10_told_32 e32_5 (by decide) (by decide) rfl (by decide) ?_
                  exact g_cut rfl (t_X10_told_148 B En N a0 ((a0 / 10) - 1) z25 h)
                · skip
                  refine q_sw h (fun e32_6 h => ?_) (fun e32_6 h => ?_)
                  · refine g_tswIn (c0 := 6) (tgt := 148) B d_X10_told_32 e32_6 (by decide) (by decide) rfl (by decide) ?_
                    exact g_cut rfl (t_X10_told_148 B En N a0 ((a0 / 10) - 1) z25 h)
                  · skip
                    refine q_sw h (fun e32_7 h => ?_) (fun e32_7 h => ?_)
                    · refine g_tswIn (c0 := 7) (tgt := 148) B d_X10_told_32 e32_7 (by decide) (by decide) rfl (by decide) ?_
                      exact g_cut rfl (t_X10_told_148 B En N a0 ((a0 / 10) - 1) z25 h)
                    · skip
                      refine q_sw h (fun e32_8 h => ?_) (fun e32_8 h => ?_)
                      · refine g_tswIn (c0 := 8) (tgt := 148) B d_X10_told_32 e32_8 (by decide) (by decide) rfl (by decide) ?_
                        exact g_cut rfl (t_X10_told_148 B En N a0 ((a0 / 10) - 1) z25 h)
                      · skip
                        refine q_sw h (fun e32_9 h => ?_) (fun e32_9 h => ?_)
                        · refine g_tswIn (c0 := 9) (tgt := 125) B d_X10_told_32 e32_9 (by decide) (by decide) rfl (by decide) ?_
                          refine g_aload_n B d_X10_told_125 rfl rfl ?_
                          refine g_iload_n B d_X10_told_126 rfl rfl ?_
                          obtain ⟨z127, g127, h⟩ := q_bind h
                          refine g_callV (p0 := 84) (ci := 10) (As := [.int ((a0 / 10) - 1)]) (rest := []) B d_X10_told_127 (t_X10_hasParted ((a0 / 10) - 1) z25 g127) m_X10_hasParted w_WaterOthersModel_93 (by decide) rfl rfl rfl rfl (Nat.le_of_ble_eq_true rfl) (by omega) (by decide) ?_
                          refine g_if_eq (tgt := 145) B d_X10_told_130 (by decide) h (fun h => ?_) (fun h => ?_)
                          · refine g_bipush (v := (-6)) B d_X10_told_145 (by decide) ?_
                            obtain ⟨rfl, rfl⟩ := q_ps h
                            exact g_iret B En d_X10_told_147
                          · refine g_aload_n B d_X10_told_133 rfl rfl ?_
                            refine g_get (ci := 10) (k := 1) (v := .ref (Z.1 86)) B d_X10_told_134 q_in10 rfl (by decide) rfl (by decide) w_WaterOthersModel_13 rfl rfl ?_
                            refine g_bipush (v := 42) B d_X10_told_137 (by decide) ?_
                            refine g_iload_n B d_X10_told_139 rfl rfl ?_
                            refine g_iadd B d_X10_told_140 ?_
                            obtain ⟨h141, h⟩ := q_chk h
                            refine g_iald B d_X10_told_141 (by decide) (fun _ _ => rfl) h141 ?_
                            refine g_goto (tgt := 147) B d_X10_told_142 (by decide) ?_
                            obtain ⟨rfl, rfl⟩ := q_ps h
                            exact g_iret B En d_X10_told_147
                        · skip
                          have ze32_0 := q_ne (n := 0) e32_0 (by decide)
                          have ze32_1 := q_ne (n := 1) e32_1 (by decide)
                          have ze32_2 := q_ne (n := 2) e32_2 (by decide)
                          have ze32_3 := q_ne (n := 3) e32_3 (by decide)
                          have ze32_4 := q_ne (n := 4) e32_4 (by decide)
                          have ze32_5 := q_ne (n := 5) e32_5 (by decide)
                          have ze32_6 := q_ne (n := 6) e32_6 (by decide)
                          have ze32_7 := q_ne (n := 7) e32_7 (by decide)
                          have ze32_8 := q_ne (n := 8) e32_8 (by decide)
                          have ze32_9 := q_ne (n := 9) e32_9 (by decide)
                          refine g_tswOut (tgt := 148) B d_X10_told_32 (by change ((q_rem a0 10) : Int32).toInt < _ ∨ _ < ((q_rem a0 10) : Int32).toInt; omega) (by decide) ?_
                          exact g_cut rfl (t_X10_told_148 B En N a0 ((a0 / 10) - 1) z25 h)
    · refine g_bipush (v := (-2)) B d_X10_told_21 (by decide) ?_
      obtain ⟨rfl, rfl⟩ := q_ps h
      exact g_iret B En d_X10_told_23
