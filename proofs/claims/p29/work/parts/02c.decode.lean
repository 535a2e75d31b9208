theorem dX5_number_148 : decode cX5_number 148 = .ok (.aload_n 0, 1) := by decide +kernel
theorem dX5_number_149 : decode cX5_number 149 = .ok (.getfield 10, 3) := by decide +kernel
theorem dX5_number_152 : decode cX5_number 152 = .ok (.getfield 294, 3) := by decide +kernel
theorem dX5_number_155 : decode cX5_number 155 = .ok (.ireturn, 1) := by decide +kernel
theorem dX5_number_156 : decode cX5_number 156 = .ok (.aload_n 0, 1) := by decide +kernel
theorem dX5_number_157 : decode cX5_number 157 = .ok (.getfield 10, 3) := by decide +kernel
theorem dX5_number_160 : decode cX5_number 160 = .ok (.iconst 1, 1) := by decide +kernel
theorem dX5_number_161 : decode cX5_number 161 = .ok (.invokevirtual 167, 3) := by decide +kernel
theorem dX5_number_164 : decode cX5_number 164 = .ok (.ireturn, 1) := by decide +kernel
theorem dX5_number_165 : decode cX5_number 165 = .ok (.aload_n 0, 1) := by decide +kernel
theorem dX5_number_166 : decode cX5_number 166 = .ok (.getfield 10, 3) := by decide +kernel
theorem dX5_number_169 : decode cX5_number 169 = .ok (.iconst 2, 1) := by decide +kernel
theorem dX5_number_170 : decode cX5_number 170 = .ok (.invokevirtual 167, 3) := by decide +kernel
theorem dX5_number_173 : decode cX5_number 173 = .ok (.ireturn, 1) := by decide +kernel
theorem dX5_number_174 : decode cX5_number 174 = .ok (.aload_n 0, 1) := by decide +kernel
theorem dX5_number_175 : decode cX5_number 175 = .ok (.getfield 19, 3) := by decide +kernel
theorem dX5_number_178 : decode cX5_number 178 = .ok (.getfield 196, 3) := by decide +kernel
theorem dX5_number_181 : decode cX5_number 181 = .ok (.ireturn, 1) := by decide +kernel
theorem dX5_isWithin_0 : decode cX5_isWithin 0 = .ok (.iload_n 0, 1) := by decide +kernel
theorem dX5_isWithin_1 : decode cX5_isWithin 1 = .ok (.iload_n 1, 1) := by decide +kernel
theorem dX5_isWithin_2 : decode cX5_isWithin 2 = .ok (.if_icmp .lt 12, 3) := by decide +kernel
theorem dX5_isWithin_5 : decode cX5_isWithin 5 = .ok (.iload_n 0, 1) := by decide +kernel
theorem dX5_isWithin_6 : decode cX5_isWithin 6 = .ok (.iload_n 2, 1) := by decide +kernel
theorem dX5_isWithin_7 : decode cX5_isWithin 7 = .ok (.if_icmp .gt 7, 3) := by decide +kernel
theorem dX5_isWithin_10 : decode cX5_isWithin 10 = .ok (.iconst 1, 1) := by decide +kernel
theorem dX5_isWithin_11 : decode cX5_isWithin 11 = .ok (.goto 4, 3) := by decide +kernel
theorem dX5_isWithin_14 : decode cX5_isWithin 14 = .ok (.iconst 0, 1) := by decide +kernel
theorem dX5_isWithin_15 : decode cX5_isWithin 15 = .ok (.ireturn, 1) := by decide +kernel
theorem dX5_isSkill_0 : decode cX5_isSkill 0 = .ok (.iload_n 0, 1) := by decide +kernel
theorem dX5_isSkill_1 : decode cX5_isSkill 1 = .ok (.iconst 0, 1) := by decide +kernel
theorem dX5_isSkill_2 : decode cX5_isSkill 2 = .ok (.iconst 4, 1) := by decide +kernel
theorem dX5_isSkill_3 : decode cX5_isSkill 3 = .ok (.invokestatic 100, 3) := by decide +kernel
theorem dX5_isSkill_6 : decode cX5_isSkill 6 = .ok (.ireturn, 1) := by decide +kernel
theorem dX5_isSetting_0 : decode cX5_isSetting 0 = .ok (.iload_n 0, 1) := by decide +kernel
theorem dX5_isSetting_1 : decode cX5_isSetting 1 = .ok (.iconst 0, 1) := by decide +kernel
theorem dX5_isSetting_2 : decode cX5_isSetting 2 = .ok (.iconst 4, 1) := by decide +kernel
theorem dX5_isSetting_3 : decode cX5_isSetting 3 = .ok (.invokestatic 100, 3) := by decide +kernel
theorem dX5_isSetting_6 : decode cX5_isSetting 6 = .ok (.ireturn, 1) := by decide +kernel
theorem dX5_isDealMinutes_0 : decode cX5_isDealMinutes 0 = .ok (.iload_n 0, 1) := by decide +kernel
theorem dX5_isDealMinutes_1 : decode cX5_isDealMinutes 1 = .ok (.iconst 1, 1) := by decide +kernel
theorem dX5_isDealMinutes_2 : decode cX5_isDealMinutes 2 = .ok (.sipush 600, 3) := by decide +kernel
theorem dX5_isDealMinutes_5 : decode cX5_isDealMinutes 5 = .ok (.invokestatic 100, 3) := by decide +kernel
theorem dX5_isDealMinutes_8 : decode cX5_isDealMinutes 8 = .ok (.ireturn, 1) := by decide +kernel
theorem dX5_decayingPart_0 : decode cX5_decayingPart 0 = .ok (.iload_n 0, 1) := by decide +kernel
theorem dX5_decayingPart_1 : decode cX5_decayingPart 1 = .ok (.ifCond .le 12, 3) := by decide +kernel
theorem dX5_decayingPart_4 : decode cX5_decayingPart 4 = .ok (.iload_n 0, 1) := by decide +kernel
theorem dX5_decayingPart_5 : decode cX5_decayingPart 5 = .ok (.iload_n 1, 1) := by decide +kernel
theorem dX5_decayingPart_6 : decode cX5_decayingPart 6 = .ok (.imul, 1) := by decide +kernel
theorem dX5_decayingPart_7 : decode cX5_decayingPart 7 = .ok (.bipush 100, 2) := by decide +kernel
theorem dX5_decayingPart_9 : decode cX5_decayingPart 9 = .ok (.idiv, 1) := by decide +kernel
theorem dX5_decayingPart_10 : decode cX5_decayingPart 10 = .ok (.goto 4, 3) := by decide +kernel
theorem dX5_decayingPart_13 : decode cX5_decayingPart 13 = .ok (.iconst 0, 1) := by decide +kernel
theorem dX5_decayingPart_14 : decode cX5_decayingPart 14 = .ok (.ireturn, 1) := by decide +kernel
theorem dJ9_max_7cf53_0 : decode cJ9_max_7cf53 0 = .ok (.iload_n 0, 1) := by decide +kernel
theorem dJ9_max_7cf53_1 : decode cJ9_max_7cf53 1 = .ok (.iload_n 1, 1) := by decide +kernel
theorem dJ9_max_7cf53_2 : decode cJ9_max_7cf53 2 = .ok (.if_icmp .lt 7, 3) := by decide +kernel
theorem dJ9_max_7cf53_5 : decode cJ9_max_7cf53 5 = .ok (.iload_n 0, 1) := by decide +kernel
theorem dJ9_max_7cf53_6 : decode cJ9_max_7cf53 6 = .ok (.goto 4, 3) := by decide +kernel
theorem dJ9_max_7cf53_9 : decode cJ9_max_7cf53 9 = .ok (.iload_n 1, 1) := by decide +kernel
theorem dJ9_max_7cf53_10 : decode cJ9_max_7cf53 10 = .ok (.ireturn, 1) := by decide +kernel
theorem dJ9_min_7cf53_0 : decode cJ9_min_7cf53 0 = .ok (.iload_n 0, 1) := by decide +kernel
theorem dJ9_min_7cf53_1 : decode cJ9_min_7cf53 1 = .ok (.iload_n 1, 1) := by decide +kernel
theorem dJ9_min_7cf53_2 : decode cJ9_min_7cf53 2 = .ok (.if_icmp .gt 7, 3) := by decide +kernel
theorem dJ9_min_7cf53_5 : decode cJ9_min_7cf53 5 = .ok (.iload_n 0, 1) := by decide +kernel
theorem dJ9_min_7cf53_6 : decode cJ9_min_7cf53 6 = .ok (.goto 4, 3) := by decide +kernel
theorem dJ9_min_7cf53_9 : decode cJ9_min_7cf53 9 = .ok (.iload_n 1, 1) := by decide +kernel
theorem dJ9_min_7cf53_10 : decode cJ9_min_7cf53 10 = .ok (.ireturn, 1) := by decide +kernel
theorem dL_cell_0 : decode cL_cell 0 = .ok (.iload_n 1, 1) := by decide +kernel
theorem dL_cell_1 : decode cL_cell 1 = .ok (.aload_n 0, 1) := by decide +kernel
theorem dL_cell_2 : decode cL_cell 2 = .ok (.arraylength, 1) := by decide +kernel
theorem dL_cell_3 : decode cL_cell 3 = .ok (.if_icmp .ge 9, 3) := by decide +kernel
theorem dL_cell_6 : decode cL_cell 6 = .ok (.aload_n 0, 1) := by decide +kernel
theorem dL_cell_7 : decode cL_cell 7 = .ok (.iload_n 1, 1) := by decide +kernel
theorem dL_cell_8 : decode cL_cell 8 = .ok (.iaload, 1) := by decide +kernel
theorem dL_cell_9 : decode cL_cell 9 = .ok (.goto 11, 3) := by decide +kernel
theorem dL_cell_12 : decode cL_cell 12 = .ok (.ldc 7, 2) := by decide +kernel
theorem dL_cell_14 : decode cL_cell 14 = .ok (.iload_n 1, 1) := by decide +kernel
theorem dL_cell_15 : decode cL_cell 15 = .ok (.sipush 331, 3) := by decide +kernel
theorem dL_cell_18 : decode cL_cell 18 = .ok (.iadd, 1) := by decide +kernel
theorem dL_cell_19 : decode cL_cell 19 = .ok (.imul, 1) := by decide +kernel
theorem dL_cell_20 : decode cL_cell 20 = .ok (.ireturn, 1) := by decide +kernel
theorem dL_at_0 : decode cL_at 0 = .ok (.iload_n 0, 1) := by decide +kernel
theorem dL_at_1 : decode cL_at 1 = .ok (.iconst 1, 1) := by decide +kernel
theorem dL_at_2 : decode cL_at 2 = .ok (.iushr, 1) := by decide +kernel
theorem dL_at_3 : decode cL_at 3 = .ok (.iload_n 1, 1) := by decide +kernel
theorem dL_at_4 : decode cL_at 4 = .ok (.irem, 1) := by decide +kernel
theorem dL_at_5 : decode cL_at 5 = .ok (.ireturn, 1) := by decide +kernel
theorem dL_ones_0 : decode cL_ones 0 = .ok (.iload_n 0, 1) := by decide +kernel
theorem dL_ones_1 : decode cL_ones 1 = .ok (.iconst 1, 1) := by decide +kernel
theorem dL_ones_2 : decode cL_ones 2 = .ok (.iand, 1) := by decide +kernel
theorem dL_ones_3 : decode cL_ones 3 = .ok (.iload_n 0, 1) := by decide +kernel
theorem dL_ones_4 : decode cL_ones 4 = .ok (.iconst 1, 1) := by decide +kernel
theorem dL_ones_5 : decode cL_ones 5 = .ok (.ishr, 1) := by decide +kernel
theorem dL_ones_6 : decode cL_ones 6 = .ok (.iconst 1, 1) := by decide +kernel
theorem dL_ones_7 : decode cL_ones 7 = .ok (.iand, 1) := by decide +kernel
theorem dL_ones_8 : decode cL_ones 8 = .ok (.iadd, 1) := by decide +kernel
theorem dL_ones_9 : decode cL_ones 9 = .ok (.iload_n 0, 1) := by decide +kernel
theorem dL_ones_10 : decode cL_ones 10 = .ok (.iconst 2, 1) := by decide +kernel
theorem dL_ones_11 : decode cL_ones 11 = .ok (.ishr, 1) := by decide +kernel
theorem dL_ones_12 : decode cL_ones 12 = .ok (.iconst 1, 1) := by decide +kernel
theorem dL_ones_13 : decode cL_ones 13 = .ok (.iand, 1) := by decide +kernel
theorem dL_ones_14 : decode cL_ones 14 = .ok (.iadd, 1) := by decide +kernel
theorem dL_ones_15 : decode cL_ones 15 = .ok (.iload_n 0, 1) := by decide +kernel
theorem dL_ones_16 : decode cL_ones 16 = .ok (.iconst 3, 1) := by decide +kernel
theorem dL_ones_17 : decode cL_ones 17 = .ok (.ishr, 1) := by decide +kernel
theorem dL_ones_18 : decode cL_ones 18 = .ok (.iconst 1, 1) := by decide +kernel
theorem dL_ones_19 : decode cL_ones 19 = .ok (.iand, 1) := by decide +kernel
theorem dL_ones_20 : decode cL_ones 20 = .ok (.iadd, 1) := by decide +kernel
theorem dL_ones_21 : decode cL_ones 21 = .ok (.ireturn, 1) := by decide +kernel
theorem dL_there_0 : decode cL_there 0 = .ok (.iconst 0, 1) := by decide +kernel
theorem dL_there_1 : decode cL_there 1 = .ok (.istore_n 2, 1) := by decide +kernel
theorem dL_there_2 : decode cL_there 2 = .ok (.iconst 0, 1) := by decide +kernel
theorem dL_there_3 : decode cL_there 3 = .ok (.istore_n 3, 1) := by decide +kernel
theorem dL_there_4 : decode cL_there 4 = .ok (.iload_n 3, 1) := by decide +kernel
theorem dL_there_5 : decode cL_there 5 = .ok (.aload_n 0, 1) := by decide +kernel
theorem dL_there_6 : decode cL_there 6 = .ok (.iconst 0, 1) := by decide +kernel
theorem dL_there_7 : decode cL_there 7 = .ok (.iaload, 1) := by decide +kernel
theorem dL_there_8 : decode cL_there 8 = .ok (.if_icmp .ge 18, 3) := by decide +kernel
theorem dL_there_11 : decode cL_there 11 = .ok (.iload_n 2, 1) := by decide +kernel
theorem dL_there_12 : decode cL_there 12 = .ok (.aload_n 1, 1) := by decide +kernel
theorem dL_there_13 : decode cL_there 13 = .ok (.bipush 16, 2) := by decide +kernel
theorem dL_there_15 : decode cL_there 15 = .ok (.iload_n 3, 1) := by decide +kernel
theorem dL_there_16 : decode cL_there 16 = .ok (.imul, 1) := by decide +kernel
theorem dL_there_17 : decode cL_there 17 = .ok (.iaload, 1) := by decide +kernel
theorem dL_there_18 : decode cL_there 18 = .ok (.iadd, 1) := by decide +kernel
theorem dL_there_19 : decode cL_there 19 = .ok (.istore_n 2, 1) := by decide +kernel
theorem dL_there_20 : decode cL_there 20 = .ok (.iinc 3 1, 3) := by decide +kernel
theorem dL_there_23 : decode cL_there 23 = .ok (.goto (-19), 3) := by decide +kernel
theorem dL_there_26 : decode cL_there 26 = .ok (.iload_n 2, 1) := by decide +kernel
theorem dL_there_27 : decode cL_there 27 = .ok (.ireturn, 1) := by decide +kernel
theorem dL_value_0 : decode cL_value 0 = .ok (.aload_n 0, 1) := by decide +kernel
theorem dL_value_1 : decode cL_value 1 = .ok (.bipush 16, 2) := by decide +kernel
theorem dL_value_3 : decode cL_value 3 = .ok (.iload_n 1, 1) := by decide +kernel
theorem dL_value_4 : decode cL_value 4 = .ok (.imul, 1) := by decide +kernel
theorem dL_value_5 : decode cL_value 5 = .ok (.bipush 11, 2) := by decide +kernel
theorem dL_value_7 : decode cL_value 7 = .ok (.iadd, 1) := by decide +kernel
theorem dL_value_8 : decode cL_value 8 = .ok (.iload_n 2, 1) := by decide +kernel
theorem dL_value_9 : decode cL_value 9 = .ok (.iadd, 1) := by decide +kernel
theorem dL_value_10 : decode cL_value 10 = .ok (.iaload, 1) := by decide +kernel
theorem dL_value_11 : decode cL_value 11 = .ok (.sipush 300, 3) := by decide +kernel
theorem dL_value_14 : decode cL_value 14 = .ok (.idiv, 1) := by decide +kernel
theorem dL_value_15 : decode cL_value 15 = .ok (.istore 4, 2) := by decide +kernel
theorem dL_value_17 : decode cL_value 17 = .ok (.iload_n 3, 1) := by decide +kernel
theorem dL_value_18 : decode cL_value 18 = .ok (.iload 4, 2) := by decide +kernel
theorem dL_value_20 : decode cL_value 20 = .ok (.bipush 9, 2) := by decide +kernel
theorem dL_value_22 : decode cL_value 22 = .ok (.if_icmp .le 8, 3) := by decide +kernel
theorem dL_value_25 : decode cL_value 25 = .ok (.bipush 19, 2) := by decide +kernel
theorem dL_value_27 : decode cL_value 27 = .ok (.goto 8, 3) := by decide +kernel
theorem dL_value_30 : decode cL_value 30 = .ok (.bipush 10, 2) := by decide +kernel
theorem dL_value_32 : decode cL_value 32 = .ok (.iload 4, 2) := by decide +kernel
theorem dL_value_34 : decode cL_value 34 = .ok (.iadd, 1) := by decide +kernel
theorem dL_value_35 : decode cL_value 35 = .ok (.imul, 1) := by decide +kernel
theorem dL_value_36 : decode cL_value 36 = .ok (.bipush 10, 2) := by decide +kernel
theorem dL_value_38 : decode cL_value 38 = .ok (.idiv, 1) := by decide +kernel
theorem dL_value_39 : decode cL_value 39 = .ok (.ireturn, 1) := by decide +kernel
theorem dL_end_0 : decode cL_end 0 = .ok (.aload_n 0, 1) := by decide +kernel
theorem dL_end_1 : decode cL_end 1 = .ok (.bipush 11, 2) := by decide +kernel
theorem dL_end_3 : decode cL_end 3 = .ok (.iconst (-1), 1) := by decide +kernel
theorem dL_end_4 : decode cL_end 4 = .ok (.iastore, 1) := by decide +kernel
theorem dL_end_5 : decode cL_end 5 = .ok (.bipush 12, 2) := by decide +kernel
theorem dL_end_7 : decode cL_end 7 = .ok (.istore_n 1, 1) := by decide +kernel
theorem dL_end_8 : decode cL_end 8 = .ok (.iload_n 1, 1) := by decide +kernel
theorem dL_end_9 : decode cL_end 9 = .ok (.bipush 15, 2) := by decide +kernel
theorem dL_end_11 : decode cL_end 11 = .ok (.if_icmp .ge 13, 3) := by decide +kernel
theorem dL_end_14 : decode cL_end 14 = .ok (.aload_n 0, 1) := by decide +kernel
theorem dL_end_15 : decode cL_end 15 = .ok (.iload_n 1, 1) := by decide +kernel
theorem dL_end_16 : decode cL_end 16 = .ok (.iconst 0, 1) := by decide +kernel
theorem dL_end_17 : decode cL_end 17 = .ok (.iastore, 1) := by decide +kernel
theorem dL_end_18 : decode cL_end 18 = .ok (.iinc 1 1, 3) := by decide +kernel
theorem dL_end_21 : decode cL_end 21 = .ok (.goto (-13), 3) := by decide +kernel
theorem dL_end_24 : decode cL_end 24 = .ok (.return_, 1) := by decide +kernel
theorem dL_look_0 : decode cL_look 0 = .ok (.aload_n 0, 1) := by decide +kernel
theorem dL_look_1 : decode cL_look 1 = .ok (.aload_n 1, 1) := by decide +kernel
theorem dL_look_2 : decode cL_look 2 = .ok (.invokestatic 8, 3) := by decide +kernel
theorem dL_look_5 : decode cL_look 5 = .ok (.aload_n 1, 1) := by decide +kernel
theorem dL_look_6 : decode cL_look 6 = .ok (.bipush 16, 2) := by decide +kernel
theorem dL_look_8 : decode cL_look 8 = .ok (.aload_n 0, 1) := by decide +kernel
theorem dL_look_9 : decode cL_look 9 = .ok (.bipush 11, 2) := by decide +kernel
theorem dL_look_11 : decode cL_look 11 = .ok (.iaload, 1) := by decide +kernel
theorem dL_look_12 : decode cL_look 12 = .ok (.imul, 1) := by decide +kernel
theorem dL_look_13 : decode cL_look 13 = .ok (.iaload, 1) := by decide +kernel
theorem dL_look_14 : decode cL_look 14 = .ok (.isub, 1) := by decide +kernel
theorem dL_look_15 : decode cL_look 15 = .ok (.istore_n 2, 1) := by decide +kernel
theorem dL_look_16 : decode cL_look 16 = .ok (.iload_n 2, 1) := by decide +kernel
theorem dL_look_17 : decode cL_look 17 = .ok (.ifCond .ne 5, 3) := by decide +kernel
theorem dL_look_20 : decode cL_look 20 = .ok (.iconst 0, 1) := by decide +kernel
theorem dL_look_21 : decode cL_look 21 = .ok (.ireturn, 1) := by decide +kernel
theorem dL_look_22 : decode cL_look 22 = .ok (.iconst 2, 1) := by decide +kernel
theorem dL_look_23 : decode cL_look 23 = .ok (.aload_n 0, 1) := by decide +kernel
theorem dL_look_24 : decode cL_look 24 = .ok (.bipush 13, 2) := by decide +kernel
theorem dL_look_26 : decode cL_look 26 = .ok (.iaload, 1) := by decide +kernel
theorem dL_look_27 : decode cL_look 27 = .ok (.invokestatic 14, 3) := by decide +kernel
theorem dL_look_30 : decode cL_look 30 = .ok (.imul, 1) := by decide +kernel
theorem dL_look_31 : decode cL_look 31 = .ok (.iload_n 2, 1) := by decide +kernel
theorem dL_look_32 : decode cL_look 32 = .ok (.if_icmp .le 56, 3) := by decide +kernel
theorem dL_look_35 : decode cL_look 35 = .ok (.aload_n 1, 1) := by decide +kernel
theorem dL_look_36 : decode cL_look 36 = .ok (.bipush 16, 2) := by decide +kernel
theorem dL_look_38 : decode cL_look 38 = .ok (.aload_n 0, 1) := by decide +kernel
theorem dL_look_39 : decode cL_look 39 = .ok (.bipush 11, 2) := by decide +kernel
theorem dL_look_41 : decode cL_look 41 = .ok (.iaload, 1) := by decide +kernel
theorem dL_look_42 : decode cL_look 42 = .ok (.imul, 1) := by decide +kernel
theorem dL_look_43 : decode cL_look 43 = .ok (.iconst 1, 1) := by decide +kernel
theorem dL_look_44 : decode cL_look 44 = .ok (.iadd, 1) := by decide +kernel
theorem dL_look_45 : decode cL_look 45 = .ok (.dup2, 1) := by decide +kernel
theorem dL_look_46 : decode cL_look 46 = .ok (.iaload, 1) := by decide +kernel
theorem dL_look_47 : decode cL_look 47 = .ok (.aload_n 0, 1) := by decide +kernel
theorem dL_look_48 : decode cL_look 48 = .ok (.bipush 12, 2) := by decide +kernel
theorem dL_look_50 : decode cL_look 50 = .ok (.iaload, 1) := by decide +kernel
theorem dL_look_51 : decode cL_look 51 = .ok (.iadd, 1) := by decide +kernel
theorem dL_look_52 : decode cL_look 52 = .ok (.iastore, 1) := by decide +kernel
theorem dL_look_53 : decode cL_look 53 = .ok (.aload_n 1, 1) := by decide +kernel
theorem dL_look_54 : decode cL_look 54 = .ok (.bipush 16, 2) := by decide +kernel
theorem dL_look_56 : decode cL_look 56 = .ok (.aload_n 0, 1) := by decide +kernel
theorem dL_look_57 : decode cL_look 57 = .ok (.bipush 11, 2) := by decide +kernel
theorem dL_look_59 : decode cL_look 59 = .ok (.iaload, 1) := by decide +kernel
theorem dL_look_60 : decode cL_look 60 = .ok (.imul, 1) := by decide +kernel
theorem dL_look_61 : decode cL_look 61 = .ok (.bipush 10, 2) := by decide +kernel
theorem dL_look_63 : decode cL_look 63 = .ok (.iadd, 1) := by decide +kernel
theorem dL_look_64 : decode cL_look 64 = .ok (.dup2, 1) := by decide +kernel
theorem dL_look_65 : decode cL_look 65 = .ok (.iaload, 1) := by decide +kernel
theorem dL_look_66 : decode cL_look 66 = .ok (.aload_n 0, 1) := by decide +kernel
theorem dL_look_67 : decode cL_look 67 = .ok (.bipush 12, 2) := by decide +kernel
theorem dL_look_69 : decode cL_look 69 = .ok (.iaload, 1) := by decide +kernel
theorem dL_look_70 : decode cL_look 70 = .ok (.iadd, 1) := by decide +kernel
theorem dL_look_71 : decode cL_look 71 = .ok (.iastore, 1) := by decide +kernel
theorem dL_look_72 : decode cL_look 72 = .ok (.aload_n 0, 1) := by decide +kernel
theorem dL_look_73 : decode cL_look 73 = .ok (.iconst 2, 1) := by decide +kernel
theorem dL_look_74 : decode cL_look 74 = .ok (.dup2, 1) := by decide +kernel
theorem dL_look_75 : decode cL_look 75 = .ok (.iaload, 1) := by decide +kernel
theorem dL_look_76 : decode cL_look 76 = .ok (.aload_n 0, 1) := by decide +kernel
theorem dL_look_77 : decode cL_look 77 = .ok (.bipush 12, 2) := by decide +kernel
theorem dL_look_79 : decode cL_look 79 = .ok (.iaload, 1) := by decide +kernel
theorem dL_look_80 : decode cL_look 80 = .ok (.iadd, 1) := by decide +kernel
theorem dL_look_81 : decode cL_look 81 = .ok (.iastore, 1) := by decide +kernel
theorem dL_look_82 : decode cL_look 82 = .ok (.aload_n 0, 1) := by decide +kernel
theorem dL_look_83 : decode cL_look 83 = .ok (.invokestatic 18, 3) := by decide +kernel
theorem dL_look_86 : decode cL_look 86 = .ok (.iconst 1, 1) := by decide +kernel
theorem dL_look_87 : decode cL_look 87 = .ok (.ireturn, 1) := by decide +kernel
theorem dL_look_88 : decode cL_look 88 = .ok (.iconst 2, 1) := by decide +kernel
theorem dL_look_89 : decode cL_look 89 = .ok (.aload_n 0, 1) := by decide +kernel
theorem dL_look_90 : decode cL_look 90 = .ok (.bipush 14, 2) := by decide +kernel
theorem dL_look_92 : decode cL_look 92 = .ok (.iaload, 1) := by decide +kernel
theorem dL_look_93 : decode cL_look 93 = .ok (.invokestatic 14, 3) := by decide +kernel
theorem dL_look_96 : decode cL_look 96 = .ok (.imul, 1) := by decide +kernel
theorem dL_look_97 : decode cL_look 97 = .ok (.iload_n 2, 1) := by decide +kernel
theorem dL_look_98 : decode cL_look 98 = .ok (.if_icmp .ge 5, 3) := by decide +kernel
theorem dL_look_101 : decode cL_look 101 = .ok (.iconst 0, 1) := by decide +kernel
theorem dL_look_102 : decode cL_look 102 = .ok (.ireturn, 1) := by decide +kernel
theorem dL_look_103 : decode cL_look 103 = .ok (.aload_n 0, 1) := by decide +kernel
theorem dL_look_104 : decode cL_look 104 = .ok (.invokestatic 18, 3) := by decide +kernel
theorem dL_look_107 : decode cL_look 107 = .ok (.iconst 2, 1) := by decide +kernel
theorem dL_look_108 : decode cL_look 108 = .ok (.ireturn, 1) := by decide +kernel
theorem dL_can_0 : decode cL_can 0 = .ok (.iload_n 2, 1) := by decide +kernel
theorem dL_can_1 : decode cL_can 1 = .ok (.iload_n 3, 1) := by decide +kernel
theorem dL_can_2 : decode cL_can 2 = .ok (.if_icmp .eq 53, 3) := by decide +kernel
theorem dL_can_5 : decode cL_can 5 = .ok (.aload_n 1, 1) := by decide +kernel
theorem dL_can_6 : decode cL_can 6 = .ok (.bipush 16, 2) := by decide +kernel
theorem dL_can_8 : decode cL_can 8 = .ok (.iload_n 2, 1) := by decide +kernel
theorem dL_can_9 : decode cL_can 9 = .ok (.imul, 1) := by decide +kernel
theorem dL_can_10 : decode cL_can 10 = .ok (.iaload, 1) := by decide +kernel
theorem dL_can_11 : decode cL_can 11 = .ok (.iconst 1, 1) := by decide +kernel
theorem dL_can_12 : decode cL_can 12 = .ok (.if_icmp .ne 43, 3) := by decide +kernel
theorem dL_can_15 : decode cL_can 15 = .ok (.aload_n 1, 1) := by decide +kernel
theorem dL_can_16 : decode cL_can 16 = .ok (.bipush 16, 2) := by decide +kernel
theorem dL_can_18 : decode cL_can 18 = .ok (.iload_n 3, 1) := by decide +kernel
theorem dL_can_19 : decode cL_can 19 = .ok (.imul, 1) := by decide +kernel
theorem dL_can_20 : decode cL_can 20 = .ok (.iaload, 1) := by decide +kernel
theorem dL_can_21 : decode cL_can 21 = .ok (.iconst 1, 1) := by decide +kernel
theorem dL_can_22 : decode cL_can 22 = .ok (.if_icmp .ne 33, 3) := by decide +kernel
theorem dL_can_25 : decode cL_can 25 = .ok (.aload_n 1, 1) := by decide +kernel
theorem dL_can_26 : decode cL_can 26 = .ok (.bipush 16, 2) := by decide +kernel
theorem dL_can_28 : decode cL_can 28 = .ok (.iload_n 3, 1) := by decide +kernel
theorem dL_can_29 : decode cL_can 29 = .ok (.imul, 1) := by decide +kernel
theorem dL_can_30 : decode cL_can 30 = .ok (.iconst 1, 1) := by decide +kernel
theorem dL_can_31 : decode cL_can 31 = .ok (.iadd, 1) := by decide +kernel
theorem dL_can_32 : decode cL_can 32 = .ok (.iaload, 1) := by decide +kernel
theorem dL_can_33 : decode cL_can 33 = .ok (.aload_n 1, 1) := by decide +kernel
theorem dL_can_34 : decode cL_can 34 = .ok (.iload_n 2, 1) := by decide +kernel
theorem dL_can_35 : decode cL_can 35 = .ok (.iload 4, 2) := by decide +kernel
theorem dL_can_37 : decode cL_can 37 = .ok (.iload 5, 2) := by decide +kernel
theorem dL_can_39 : decode cL_can 39 = .ok (.invokestatic 22, 3) := by decide +kernel
theorem dL_can_42 : decode cL_can 42 = .ok (.isub, 1) := by decide +kernel
theorem dL_can_43 : decode cL_can 43 = .ok (.aload_n 0, 1) := by decide +kernel
theorem dL_can_44 : decode cL_can 44 = .ok (.bipush 6, 2) := by decide +kernel
theorem dL_can_46 : decode cL_can 46 = .ok (.iaload, 1) := by decide +kernel
theorem dL_can_47 : decode cL_can 47 = .ok (.ineg, 1) := by decide +kernel
theorem dL_can_48 : decode cL_can 48 = .ok (.if_icmp .lt 7, 3) := by decide +kernel
theorem dL_can_51 : decode cL_can 51 = .ok (.iconst 1, 1) := by decide +kernel
theorem dL_can_52 : decode cL_can 52 = .ok (.goto 4, 3) := by decide +kernel
theorem dL_can_55 : decode cL_can 55 = .ok (.iconst 0, 1) := by decide +kernel
theorem dL_can_56 : decode cL_can 56 = .ok (.ireturn, 1) := by decide +kernel
theorem dL_members_0 : decode cL_members 0 = .ok (.iload_n 1, 1) := by decide +kernel
theorem dL_members_1 : decode cL_members 1 = .ok (.bipush 12, 2) := by decide +kernel
theorem dL_members_3 : decode cL_members 3 = .ok (.invokestatic 26, 3) := by decide +kernel
theorem dL_members_6 : decode cL_members 6 = .ok (.istore 5, 2) := by decide +kernel
theorem dL_members_8 : decode cL_members 8 = .ok (.aload_n 3, 1) := by decide +kernel
theorem dL_members_9 : decode cL_members 9 = .ok (.iconst 0, 1) := by decide +kernel
theorem dL_members_10 : decode cL_members 10 = .ok (.iaload, 1) := by decide +kernel
theorem dL_members_11 : decode cL_members 11 = .ok (.iconst 2, 1) := by decide +kernel
theorem dL_members_12 : decode cL_members 12 = .ok (.if_icmp .lt 15, 3) := by decide +kernel
theorem dL_members_15 : decode cL_members 15 = .ok (.iload 5, 2) := by decide +kernel
theorem dL_members_17 : decode cL_members 17 = .ok (.ifCond .ne 97, 3) := by decide +kernel
theorem dL_members_20 : decode cL_members 20 = .ok (.aload_n 3, 1) := by decide +kernel
theorem dL_members_21 : decode cL_members 21 = .ok (.iconst 0, 1) := by decide +kernel
theorem dL_members_22 : decode cL_members 22 = .ok (.iaload, 1) := by decide +kernel
theorem dL_members_23 : decode cL_members 23 = .ok (.iconst 4, 1) := by decide +kernel
theorem dL_members_24 : decode cL_members 24 = .ok (.if_icmp .ge 90, 3) := by decide +kernel
theorem dL_members_27 : decode cL_members 27 = .ok (.aload_n 3, 1) := by decide +kernel
theorem dL_members_28 : decode cL_members 28 = .ok (.iconst 0, 1) := by decide +kernel
theorem dL_members_29 : decode cL_members 29 = .ok (.dup2, 1) := by decide +kernel
theorem dL_members_30 : decode cL_members 30 = .ok (.iaload, 1) := by decide +kernel
theorem dL_members_31 : decode cL_members 31 = .ok (.dup_x2, 1) := by decide +kernel
theorem dL_members_32 : decode cL_members 32 = .ok (.iconst 1, 1) := by decide +kernel
theorem dL_members_33 : decode cL_members 33 = .ok (.iadd, 1) := by decide +kernel
theorem dL_members_34 : decode cL_members 34 = .ok (.iastore, 1) := by decide +kernel
theorem dL_members_35 : decode cL_members 35 = .ok (.istore 6, 2) := by decide +kernel
theorem dL_members_37 : decode cL_members 37 = .ok (.aload 4, 2) := by decide +kernel
theorem dL_members_39 : decode cL_members 39 = .ok (.bipush 16, 2) := by decide +kernel
theorem dL_members_41 : decode cL_members 41 = .ok (.iload 6, 2) := by decide +kernel
theorem dL_members_43 : decode cL_members 43 = .ok (.imul, 1) := by decide +kernel
theorem dL_members_44 : decode cL_members 44 = .ok (.iconst 1, 1) := by decide +kernel
theorem dL_members_45 : decode cL_members 45 = .ok (.iastore, 1) := by decide +kernel
theorem dL_members_46 : decode cL_members 46 = .ok (.aload 4, 2) := by decide +kernel
theorem dL_members_48 : decode cL_members 48 = .ok (.bipush 16, 2) := by decide +kernel
theorem dL_members_50 : decode cL_members 50 = .ok (.iload 6, 2) := by decide +kernel
theorem dL_members_52 : decode cL_members 52 = .ok (.imul, 1) := by decide +kernel
theorem dL_members_53 : decode cL_members 53 = .ok (.iconst 1, 1) := by decide +kernel
theorem dL_members_54 : decode cL_members 54 = .ok (.iadd, 1) := by decide +kernel
theorem dL_members_55 : decode cL_members 55 = .ok (.aload_n 3, 1) := by decide +kernel
theorem dL_members_56 : decode cL_members 56 = .ok (.bipush 7, 2) := by decide +kernel
theorem dL_members_58 : decode cL_members 58 = .ok (.iaload, 1) := by decide +kernel
theorem dL_members_59 : decode cL_members 59 = .ok (.iastore, 1) := by decide +kernel
theorem dL_members_60 : decode cL_members 60 = .ok (.aload 4, 2) := by decide +kernel
theorem dL_members_62 : decode cL_members 62 = .ok (.bipush 16, 2) := by decide +kernel
theorem dL_members_64 : decode cL_members 64 = .ok (.iload 6, 2) := by decide +kernel
theorem dL_members_66 : decode cL_members 66 = .ok (.imul, 1) := by decide +kernel
theorem dL_members_67 : decode cL_members 67 = .ok (.iconst 2, 1) := by decide +kernel
theorem dL_members_68 : decode cL_members 68 = .ok (.iadd, 1) := by decide +kernel
theorem dL_members_69 : decode cL_members 69 = .ok (.aload_n 3, 1) := by decide +kernel
theorem dL_members_70 : decode cL_members 70 = .ok (.bipush 7, 2) := by decide +kernel
theorem dL_members_72 : decode cL_members 72 = .ok (.iaload, 1) := by decide +kernel
theorem dL_members_73 : decode cL_members 73 = .ok (.iastore, 1) := by decide +kernel
theorem dL_members_74 : decode cL_members 74 = .ok (.aload_n 3, 1) := by decide +kernel
theorem dL_members_75 : decode cL_members 75 = .ok (.iconst 1, 1) := by decide +kernel
theorem dL_members_76 : decode cL_members 76 = .ok (.dup2, 1) := by decide +kernel
theorem dL_members_77 : decode cL_members 77 = .ok (.iaload, 1) := by decide +kernel
theorem dL_members_78 : decode cL_members 78 = .ok (.aload_n 3, 1) := by decide +kernel
theorem dL_members_79 : decode cL_members 79 = .ok (.bipush 7, 2) := by decide +kernel
theorem dL_members_81 : decode cL_members 81 = .ok (.iaload, 1) := by decide +kernel
theorem dL_members_82 : decode cL_members 82 = .ok (.isub, 1) := by decide +kernel
theorem dL_members_83 : decode cL_members 83 = .ok (.iastore, 1) := by decide +kernel
theorem dL_members_84 : decode cL_members 84 = .ok (.aload_n 3, 1) := by decide +kernel
theorem dL_members_85 : decode cL_members 85 = .ok (.iconst 5, 1) := by decide +kernel
theorem dL_members_86 : decode cL_members 86 = .ok (.iaload, 1) := by decide +kernel
theorem dL_members_87 : decode cL_members 87 = .ok (.bipush 6, 2) := by decide +kernel
theorem dL_members_89 : decode cL_members 89 = .ok (.if_icmp .ge 10, 3) := by decide +kernel
theorem dL_members_92 : decode cL_members 92 = .ok (.aload_n 3, 1) := by decide +kernel
theorem dL_members_93 : decode cL_members 93 = .ok (.iconst 5, 1) := by decide +kernel
theorem dL_members_94 : decode cL_members 94 = .ok (.dup2, 1) := by decide +kernel
theorem dL_members_95 : decode cL_members 95 = .ok (.iaload, 1) := by decide +kernel
theorem dL_members_96 : decode cL_members 96 = .ok (.iconst 1, 1) := by decide +kernel
theorem dL_members_97 : decode cL_members 97 = .ok (.iadd, 1) := by decide +kernel
theorem dL_members_98 : decode cL_members 98 = .ok (.iastore, 1) := by decide +kernel
theorem dL_members_99 : decode cL_members 99 = .ok (.aload_n 0, 1) := by decide +kernel
theorem dL_members_100 : decode cL_members 100 = .ok (.invokevirtual 30, 3) := by decide +kernel
theorem dL_members_103 : decode cL_members 103 = .ok (.iload 6, 2) := by decide +kernel
theorem dL_members_105 : decode cL_members 105 = .ok (.if_icmp .ne 7, 3) := by decide +kernel
theorem dL_members_108 : decode cL_members 108 = .ok (.iconst 1, 1) := by decide +kernel
theorem dL_members_109 : decode cL_members 109 = .ok (.goto 4, 3) := by decide +kernel
theorem dL_members_112 : decode cL_members 112 = .ok (.iconst 0, 1) := by decide +kernel
theorem dL_members_113 : decode cL_members 113 = .ok (.ireturn, 1) := by decide +kernel
theorem dL_members_114 : decode cL_members 114 = .ok (.iload_n 2, 1) := by decide +kernel
theorem dL_members_115 : decode cL_members 115 = .ok (.aload_n 3, 1) := by decide +kernel
theorem dL_members_116 : decode cL_members 116 = .ok (.iconst 0, 1) := by decide +kernel
theorem dL_members_117 : decode cL_members 117 = .ok (.iaload, 1) := by decide +kernel
theorem dL_members_118 : decode cL_members 118 = .ok (.invokestatic 26, 3) := by decide +kernel
theorem dL_members_121 : decode cL_members 121 = .ok (.istore 6, 2) := by decide +kernel
theorem dL_members_123 : decode cL_members 123 = .ok (.iload_n 2, 1) := by decide +kernel
theorem dL_members_124 : decode cL_members 124 = .ok (.iconst 2, 1) := by decide +kernel
theorem dL_members_125 : decode cL_members 125 = .ok (.ishr, 1) := by decide +kernel
theorem dL_members_126 : decode cL_members 126 = .ok (.aload_n 3, 1) := by decide +kernel
theorem dL_members_127 : decode cL_members 127 = .ok (.iconst 0, 1) := by decide +kernel
theorem dL_members_128 : decode cL_members 128 = .ok (.iaload, 1) := by decide +kernel
theorem dL_members_129 : decode cL_members 129 = .ok (.invokestatic 26, 3) := by decide +kernel
theorem dL_members_132 : decode cL_members 132 = .ok (.istore 7, 2) := by decide +kernel
theorem dL_members_134 : decode cL_members 134 = .ok (.iload_n 2, 1) := by decide +kernel
theorem dL_members_135 : decode cL_members 135 = .ok (.iconst 4, 1) := by decide +kernel
theorem dL_members_136 : decode cL_members 136 = .ok (.ishr, 1) := by decide +kernel
theorem dL_members_137 : decode cL_members 137 = .ok (.iconst 5, 1) := by decide +kernel
theorem dL_members_138 : decode cL_members 138 = .ok (.invokestatic 26, 3) := by decide +kernel
theorem dL_members_141 : decode cL_members 141 = .ok (.istore 8, 2) := by decide +kernel
theorem dL_members_143 : decode cL_members 143 = .ok (.iload 5, 2) := by decide +kernel
theorem dL_members_145 : decode cL_members 145 = .ok (.bipush 8, 2) := by decide +kernel
theorem dL_members_147 : decode cL_members 147 = .ok (.if_icmp .ge 352, 3) := by decide +kernel
theorem dL_members_150 : decode cL_members 150 = .ok (.iconst 1, 1) := by decide +kernel
theorem dL_members_151 : decode cL_members 151 = .ok (.iload_n 2, 1) := by decide +kernel
theorem dL_members_152 : decode cL_members 152 = .ok (.bipush 7, 2) := by decide +kernel
theorem dL_members_154 : decode cL_members 154 = .ok (.ishr, 1) := by decide +kernel
theorem dL_members_155 : decode cL_members 155 = .ok (.sipush 600, 3) := by decide +kernel
theorem dL_members_158 : decode cL_members 158 = .ok (.invokestatic 26, 3) := by decide +kernel
theorem dL_members_161 : decode cL_members 161 = .ok (.iadd, 1) := by decide +kernel
theorem dL_members_162 : decode cL_members 162 = .ok (.istore 9, 2) := by decide +kernel
theorem dL_members_164 : decode cL_members 164 = .ok (.aload_n 3, 1) := by decide +kernel
theorem dL_members_165 : decode cL_members 165 = .ok (.aload 4, 2) := by decide +kernel
theorem dL_members_167 : decode cL_members 167 = .ok (.iload 6, 2) := by decide +kernel
theorem dL_members_169 : decode cL_members 169 = .ok (.iload 7, 2) := by decide +kernel
theorem dL_members_171 : decode cL_members 171 = .ok (.iload 8, 2) := by decide +kernel
theorem dL_members_173 : decode cL_members 173 = .ok (.iload 9, 2) := by decide +kernel
theorem dL_members_175 : decode cL_members 175 = .ok (.invokestatic 36, 3) := by decide +kernel
theorem dL_members_178 : decode cL_members 178 = .ok (.ifCond .ne 33, 3) := by decide +kernel
theorem dL_members_181 : decode cL_members 181 = .ok (.aload_n 0, 1) := by decide +kernel
theorem dL_members_182 : decode cL_members 182 = .ok (.iload 6, 2) := by decide +kernel
theorem dL_members_184 : decode cL_members 184 = .ok (.iload 8, 2) := by decide +kernel
theorem dL_members_186 : decode cL_members 186 = .ok (.iload 9, 2) := by decide +kernel
theorem dL_members_188 : decode cL_members 188 = .ok (.invokevirtual 40, 3) := by decide +kernel
theorem dL_members_191 : decode cL_members 191 = .ok (.aload 4, 2) := by decide +kernel
theorem dL_members_193 : decode cL_members 193 = .ok (.iload 6, 2) := by decide +kernel
theorem dL_members_195 : decode cL_members 195 = .ok (.iload 8, 2) := by decide +kernel
theorem dL_members_197 : decode cL_members 197 = .ok (.iload 9, 2) := by decide +kernel
theorem dL_members_199 : decode cL_members 199 = .ok (.invokestatic 22, 3) := by decide +kernel
theorem dL_members_202 : decode cL_members 202 = .ok (.if_icmp .ne 7, 3) := by decide +kernel
theorem dL_members_205 : decode cL_members 205 = .ok (.iconst 1, 1) := by decide +kernel
theorem dL_members_206 : decode cL_members 206 = .ok (.goto 4, 3) := by decide +kernel
theorem dL_members_209 : decode cL_members 209 = .ok (.iconst 0, 1) := by decide +kernel
theorem dL_members_210 : decode cL_members 210 = .ok (.ireturn, 1) := by decide +kernel
theorem dL_members_211 : decode cL_members 211 = .ok (.aload 4, 2) := by decide +kernel
theorem dL_members_213 : decode cL_members 213 = .ok (.iload 6, 2) := by decide +kernel
theorem dL_members_215 : decode cL_members 215 = .ok (.iload 8, 2) := by decide +kernel
theorem dL_members_217 : decode cL_members 217 = .ok (.iload 9, 2) := by decide +kernel
theorem dL_members_219 : decode cL_members 219 = .ok (.invokestatic 22, 3) := by decide +kernel
theorem dL_members_222 : decode cL_members 222 = .ok (.istore 10, 2) := by decide +kernel
theorem dL_members_224 : decode cL_members 224 = .ok (.iload 10, 2) := by decide +kernel
theorem dL_members_226 : decode cL_members 226 = .ok (.iconst 2, 1) := by decide +kernel
theorem dL_members_227 : decode cL_members 227 = .ok (.idiv, 1) := by decide +kernel
theorem dL_members_228 : decode cL_members 228 = .ok (.istore 11, 2) := by decide +kernel
theorem dL_members_230 : decode cL_members 230 = .ok (.iload 11, 2) := by decide +kernel
theorem dL_members_232 : decode cL_members 232 = .ok (.aload 4, 2) := by decide +kernel
theorem dL_members_234 : decode cL_members 234 = .ok (.bipush 16, 2) := by decide +kernel
theorem dL_members_236 : decode cL_members 236 = .ok (.iload 6, 2) := by decide +kernel
theorem dL_members_238 : decode cL_members 238 = .ok (.imul, 1) := by decide +kernel
theorem dL_members_239 : decode cL_members 239 = .ok (.iconst 2, 1) := by decide +kernel
theorem dL_members_240 : decode cL_members 240 = .ok (.iadd, 1) := by decide +kernel
theorem dL_members_241 : decode cL_members 241 = .ok (.iaload, 1) := by decide +kernel
theorem dL_members_242 : decode cL_members 242 = .ok (.if_icmp .le 15, 3) := by decide +kernel
theorem dL_members_245 : decode cL_members 245 = .ok (.aload 4, 2) := by decide +kernel
theorem dL_members_247 : decode cL_members 247 = .ok (.bipush 16, 2) := by decide +kernel
theorem dL_members_249 : decode cL_members 249 = .ok (.iload 6, 2) := by decide +kernel
theorem dL_members_251 : decode cL_members 251 = .ok (.imul, 1) := by decide +kernel
theorem dL_members_252 : decode cL_members 252 = .ok (.iconst 2, 1) := by decide +kernel
theorem dL_members_253 : decode cL_members 253 = .ok (.iadd, 1) := by decide +kernel
theorem dL_members_254 : decode cL_members 254 = .ok (.iaload, 1) := by decide +kernel
theorem dL_members_255 : decode cL_members 255 = .ok (.istore 11, 2) := by decide +kernel
theorem dL_members_257 : decode cL_members 257 = .ok (.aload 4, 2) := by decide +kernel
theorem dL_members_259 : decode cL_members 259 = .ok (.bipush 16, 2) := by decide +kernel
theorem dL_members_261 : decode cL_members 261 = .ok (.iload 6, 2) := by decide +kernel
theorem dL_members_263 : decode cL_members 263 = .ok (.imul, 1) := by decide +kernel
theorem dL_members_264 : decode cL_members 264 = .ok (.iconst 1, 1) := by decide +kernel
theorem dL_members_265 : decode cL_members 265 = .ok (.iadd, 1) := by decide +kernel
theorem dL_members_266 : decode cL_members 266 = .ok (.dup2, 1) := by decide +kernel
theorem dL_members_267 : decode cL_members 267 = .ok (.iaload, 1) := by decide +kernel
theorem dL_members_268 : decode cL_members 268 = .ok (.iload 10, 2) := by decide +kernel
theorem dL_members_270 : decode cL_members 270 = .ok (.iload 11, 2) := by decide +kernel
theorem dL_members_272 : decode cL_members 272 = .ok (.isub, 1) := by decide +kernel
theorem dL_members_273 : decode cL_members 273 = .ok (.iadd, 1) := by decide +kernel
theorem dL_members_274 : decode cL_members 274 = .ok (.iastore, 1) := by decide +kernel
theorem dL_members_275 : decode cL_members 275 = .ok (.aload 4, 2) := by decide +kernel
theorem dL_members_277 : decode cL_members 277 = .ok (.bipush 16, 2) := by decide +kernel
theorem dL_members_279 : decode cL_members 279 = .ok (.iload 6, 2) := by decide +kernel
theorem dL_members_281 : decode cL_members 281 = .ok (.imul, 1) := by decide +kernel
theorem dL_members_282 : decode cL_members 282 = .ok (.iconst 2, 1) := by decide +kernel
theorem dL_members_283 : decode cL_members 283 = .ok (.iadd, 1) := by decide +kernel
theorem dL_members_284 : decode cL_members 284 = .ok (.dup2, 1) := by decide +kernel
theorem dL_members_285 : decode cL_members 285 = .ok (.iaload, 1) := by decide +kernel
theorem dL_members_286 : decode cL_members 286 = .ok (.iload 11, 2) := by decide +kernel
theorem dL_members_288 : decode cL_members 288 = .ok (.isub, 1) := by decide +kernel
theorem dL_members_289 : decode cL_members 289 = .ok (.iastore, 1) := by decide +kernel
theorem dL_members_290 : decode cL_members 290 = .ok (.aload_n 3, 1) := by decide +kernel
theorem dL_members_291 : decode cL_members 291 = .ok (.iconst 1, 1) := by decide +kernel
theorem dL_members_292 : decode cL_members 292 = .ok (.dup2, 1) := by decide +kernel
theorem dL_members_293 : decode cL_members 293 = .ok (.iaload, 1) := by decide +kernel
theorem dL_members_294 : decode cL_members 294 = .ok (.iload 11, 2) := by decide +kernel
theorem dL_members_296 : decode cL_members 296 = .ok (.iadd, 1) := by decide +kernel
theorem dL_members_297 : decode cL_members 297 = .ok (.iastore, 1) := by decide +kernel
theorem dL_members_298 : decode cL_members 298 = .ok (.aload 4, 2) := by decide +kernel
theorem dL_members_300 : decode cL_members 300 = .ok (.bipush 16, 2) := by decide +kernel
theorem dL_members_302 : decode cL_members 302 = .ok (.iload 6, 2) := by decide +kernel
theorem dL_members_304 : decode cL_members 304 = .ok (.imul, 1) := by decide +kernel
theorem dL_members_305 : decode cL_members 305 = .ok (.iconst 4, 1) := by decide +kernel
theorem dL_members_306 : decode cL_members 306 = .ok (.iadd, 1) := by decide +kernel
theorem dL_members_307 : decode cL_members 307 = .ok (.iconst 1, 1) := by decide +kernel
theorem dL_members_308 : decode cL_members 308 = .ok (.iastore, 1) := by decide +kernel
theorem dL_members_309 : decode cL_members 309 = .ok (.aload 4, 2) := by decide +kernel
theorem dL_members_311 : decode cL_members 311 = .ok (.bipush 16, 2) := by decide +kernel
theorem dL_members_313 : decode cL_members 313 = .ok (.iload 6, 2) := by decide +kernel
theorem dL_members_315 : decode cL_members 315 = .ok (.imul, 1) := by decide +kernel
theorem dL_members_316 : decode cL_members 316 = .ok (.iconst 5, 1) := by decide +kernel
theorem dL_members_317 : decode cL_members 317 = .ok (.iadd, 1) := by decide +kernel
theorem dL_members_318 : decode cL_members 318 = .ok (.dup2, 1) := by decide +kernel
theorem dL_members_319 : decode cL_members 319 = .ok (.iaload, 1) := by decide +kernel
theorem dL_members_320 : decode cL_members 320 = .ok (.iload 9, 2) := by decide +kernel
theorem dL_members_322 : decode cL_members 322 = .ok (.iadd, 1) := by decide +kernel
theorem dL_members_323 : decode cL_members 323 = .ok (.iastore, 1) := by decide +kernel
theorem dL_members_324 : decode cL_members 324 = .ok (.aload 4, 2) := by decide +kernel
theorem dL_members_326 : decode cL_members 326 = .ok (.bipush 16, 2) := by decide +kernel
theorem dL_members_328 : decode cL_members 328 = .ok (.iload 6, 2) := by decide +kernel
theorem dL_members_330 : decode cL_members 330 = .ok (.imul, 1) := by decide +kernel
theorem dL_members_331 : decode cL_members 331 = .ok (.bipush 7, 2) := by decide +kernel
theorem dL_members_333 : decode cL_members 333 = .ok (.iadd, 1) := by decide +kernel
theorem dL_members_334 : decode cL_members 334 = .ok (.dup2, 1) := by decide +kernel
theorem dL_members_335 : decode cL_members 335 = .ok (.iaload, 1) := by decide +kernel
theorem dL_members_336 : decode cL_members 336 = .ok (.iload 10, 2) := by decide +kernel
theorem dL_members_338 : decode cL_members 338 = .ok (.iadd, 1) := by decide +kernel
theorem dL_members_339 : decode cL_members 339 = .ok (.iastore, 1) := by decide +kernel
theorem dL_members_340 : decode cL_members 340 = .ok (.aload 4, 2) := by decide +kernel
theorem dL_members_342 : decode cL_members 342 = .ok (.bipush 16, 2) := by decide +kernel
theorem dL_members_344 : decode cL_members 344 = .ok (.iload 6, 2) := by decide +kernel
theorem dL_members_346 : decode cL_members 346 = .ok (.imul, 1) := by decide +kernel
theorem dL_members_347 : decode cL_members 347 = .ok (.bipush 11, 2) := by decide +kernel
theorem dL_members_349 : decode cL_members 349 = .ok (.iadd, 1) := by decide +kernel
theorem dL_members_350 : decode cL_members 350 = .ok (.iload 8, 2) := by decide +kernel
theorem dL_members_352 : decode cL_members 352 = .ok (.iadd, 1) := by decide +kernel
theorem dL_members_353 : decode cL_members 353 = .ok (.dup2, 1) := by decide +kernel
theorem dL_members_354 : decode cL_members 354 = .ok (.iaload, 1) := by decide +kernel
theorem dL_members_355 : decode cL_members 355 = .ok (.iload 9, 2) := by decide +kernel
theorem dL_members_357 : decode cL_members 357 = .ok (.iadd, 1) := by decide +kernel
theorem dL_members_358 : decode cL_members 358 = .ok (.iastore, 1) := by decide +kernel
theorem dL_members_359 : decode cL_members 359 = .ok (.aload 4, 2) := by decide +kernel
theorem dL_members_361 : decode cL_members 361 = .ok (.bipush 16, 2) := by decide +kernel
theorem dL_members_363 : decode cL_members 363 = .ok (.iload 6, 2) := by decide +kernel
theorem dL_members_365 : decode cL_members 365 = .ok (.imul, 1) := by decide +kernel
theorem dL_members_366 : decode cL_members 366 = .ok (.bipush 11, 2) := by decide +kernel
theorem dL_members_368 : decode cL_members 368 = .ok (.iadd, 1) := by decide +kernel
theorem dL_members_369 : decode cL_members 369 = .ok (.iload 8, 2) := by decide +kernel
theorem dL_members_371 : decode cL_members 371 = .ok (.iadd, 1) := by decide +kernel
theorem dL_members_372 : decode cL_members 372 = .ok (.iaload, 1) := by decide +kernel
theorem dL_members_373 : decode cL_members 373 = .ok (.sipush 9999, 3) := by decide +kernel
theorem dL_members_376 : decode cL_members 376 = .ok (.if_icmp .le 20, 3) := by decide +kernel
theorem dL_members_379 : decode cL_members 379 = .ok (.aload 4, 2) := by decide +kernel
theorem dL_members_381 : decode cL_members 381 = .ok (.bipush 16, 2) := by decide +kernel
theorem dL_members_383 : decode cL_members 383 = .ok (.iload 6, 2) := by decide +kernel
theorem dL_members_385 : decode cL_members 385 = .ok (.imul, 1) := by decide +kernel
theorem dL_members_386 : decode cL_members 386 = .ok (.bipush 11, 2) := by decide +kernel
theorem dL_members_388 : decode cL_members 388 = .ok (.iadd, 1) := by decide +kernel
theorem dL_members_389 : decode cL_members 389 = .ok (.iload 8, 2) := by decide +kernel
theorem dL_members_391 : decode cL_members 391 = .ok (.iadd, 1) := by decide +kernel
theorem dL_members_392 : decode cL_members 392 = .ok (.sipush 9999, 3) := by decide +kernel
theorem dL_members_395 : decode cL_members 395 = .ok (.iastore, 1) := by decide +kernel
theorem dL_members_396 : decode cL_members 396 = .ok (.aload 4, 2) := by decide +kernel
theorem dL_members_398 : decode cL_members 398 = .ok (.bipush 16, 2) := by decide +kernel
theorem dL_members_400 : decode cL_members 400 = .ok (.iload 7, 2) := by decide +kernel
theorem dL_members_402 : decode cL_members 402 = .ok (.imul, 1) := by decide +kernel
theorem dL_members_403 : decode cL_members 403 = .ok (.iconst 1, 1) := by decide +kernel
theorem dL_members_404 : decode cL_members 404 = .ok (.iadd, 1) := by decide +kernel
theorem dL_members_405 : decode cL_members 405 = .ok (.dup2, 1) := by decide +kernel
theorem dL_members_406 : decode cL_members 406 = .ok (.iaload, 1) := by decide +kernel
theorem dL_members_407 : decode cL_members 407 = .ok (.iload 10, 2) := by decide +kernel
theorem dL_members_409 : decode cL_members 409 = .ok (.isub, 1) := by decide +kernel
theorem dL_members_410 : decode cL_members 410 = .ok (.iastore, 1) := by decide +kernel
theorem dL_members_411 : decode cL_members 411 = .ok (.aload 4, 2) := by decide +kernel
theorem dL_members_413 : decode cL_members 413 = .ok (.bipush 16, 2) := by decide +kernel
theorem dL_members_415 : decode cL_members 415 = .ok (.iload 7, 2) := by decide +kernel
theorem dL_members_417 : decode cL_members 417 = .ok (.imul, 1) := by decide +kernel
theorem dL_members_418 : decode cL_members 418 = .ok (.iconst 4, 1) := by decide +kernel
theorem dL_members_419 : decode cL_members 419 = .ok (.iadd, 1) := by decide +kernel
theorem dL_members_420 : decode cL_members 420 = .ok (.iconst 1, 1) := by decide +kernel
theorem dL_members_421 : decode cL_members 421 = .ok (.iastore, 1) := by decide +kernel
theorem dL_members_422 : decode cL_members 422 = .ok (.aload 4, 2) := by decide +kernel
theorem dL_members_424 : decode cL_members 424 = .ok (.bipush 16, 2) := by decide +kernel
theorem dL_members_426 : decode cL_members 426 = .ok (.iload 7, 2) := by decide +kernel
theorem dL_members_428 : decode cL_members 428 = .ok (.imul, 1) := by decide +kernel
theorem dL_members_429 : decode cL_members 429 = .ok (.bipush 6, 2) := by decide +kernel
theorem dL_members_431 : decode cL_members 431 = .ok (.iadd, 1) := by decide +kernel
theorem dL_members_432 : decode cL_members 432 = .ok (.dup2, 1) := by decide +kernel
theorem dL_members_433 : decode cL_members 433 = .ok (.iaload, 1) := by decide +kernel
theorem dL_members_434 : decode cL_members 434 = .ok (.iload 9, 2) := by decide +kernel
theorem dL_members_436 : decode cL_members 436 = .ok (.iadd, 1) := by decide +kernel
theorem dL_members_437 : decode cL_members 437 = .ok (.iastore, 1) := by decide +kernel
theorem dL_members_438 : decode cL_members 438 = .ok (.aload 4, 2) := by decide +kernel
theorem dL_members_440 : decode cL_members 440 = .ok (.bipush 16, 2) := by decide +kernel
theorem dL_members_442 : decode cL_members 442 = .ok (.iload 7, 2) := by decide +kernel
theorem dL_members_444 : decode cL_members 444 = .ok (.imul, 1) := by decide +kernel
theorem dL_members_445 : decode cL_members 445 = .ok (.bipush 8, 2) := by decide +kernel
theorem dL_members_447 : decode cL_members 447 = .ok (.iadd, 1) := by decide +kernel
theorem dL_members_448 : decode cL_members 448 = .ok (.dup2, 1) := by decide +kernel
theorem dL_members_449 : decode cL_members 449 = .ok (.iaload, 1) := by decide +kernel
theorem dL_members_450 : decode cL_members 450 = .ok (.iload 10, 2) := by decide +kernel
theorem dL_members_452 : decode cL_members 452 = .ok (.iadd, 1) := by decide +kernel
theorem dL_members_453 : decode cL_members 453 = .ok (.iastore, 1) := by decide +kernel
theorem dL_members_454 : decode cL_members 454 = .ok (.aload_n 3, 1) := by decide +kernel
theorem dL_members_455 : decode cL_members 455 = .ok (.iconst 4, 1) := by decide +kernel
theorem dL_members_456 : decode cL_members 456 = .ok (.dup2, 1) := by decide +kernel
theorem dL_members_457 : decode cL_members 457 = .ok (.iaload, 1) := by decide +kernel
theorem dL_members_458 : decode cL_members 458 = .ok (.iconst 1, 1) := by decide +kernel
theorem dL_members_459 : decode cL_members 459 = .ok (.iadd, 1) := by decide +kernel
theorem dL_members_460 : decode cL_members 460 = .ok (.iastore, 1) := by decide +kernel
theorem dL_members_461 : decode cL_members 461 = .ok (.aload_n 3, 1) := by decide +kernel
theorem dL_members_462 : decode cL_members 462 = .ok (.iconst 5, 1) := by decide +kernel
theorem dL_members_463 : decode cL_members 463 = .ok (.iaload, 1) := by decide +kernel
theorem dL_members_464 : decode cL_members 464 = .ok (.bipush 6, 2) := by decide +kernel
theorem dL_members_466 : decode cL_members 466 = .ok (.if_icmp .ge 10, 3) := by decide +kernel
theorem dL_members_469 : decode cL_members 469 = .ok (.aload_n 3, 1) := by decide +kernel
theorem dL_members_470 : decode cL_members 470 = .ok (.iconst 5, 1) := by decide +kernel
theorem dL_members_471 : decode cL_members 471 = .ok (.dup2, 1) := by decide +kernel
theorem dL_members_472 : decode cL_members 472 = .ok (.iaload, 1) := by decide +kernel
theorem dL_members_473 : decode cL_members 473 = .ok (.iconst 1, 1) := by decide +kernel
theorem dL_members_474 : decode cL_members 474 = .ok (.iadd, 1) := by decide +kernel
theorem dL_members_475 : decode cL_members 475 = .ok (.iastore, 1) := by decide +kernel
theorem dL_members_476 : decode cL_members 476 = .ok (.aload_n 0, 1) := by decide +kernel
theorem dL_members_477 : decode cL_members 477 = .ok (.iload 6, 2) := by decide +kernel
theorem dL_members_479 : decode cL_members 479 = .ok (.iload 7, 2) := by decide +kernel
theorem dL_members_481 : decode cL_members 481 = .ok (.iload 8, 2) := by decide +kernel
theorem dL_members_483 : decode cL_members 483 = .ok (.iload 9, 2) := by decide +kernel
theorem dL_members_485 : decode cL_members 485 = .ok (.invokevirtual 44, 3) := by decide +kernel
theorem dL_members_488 : decode cL_members 488 = .ok (.iload 10, 2) := by decide +kernel
theorem dL_members_490 : decode cL_members 490 = .ok (.if_icmp .ne 7, 3) := by decide +kernel
theorem dL_members_493 : decode cL_members 493 = .ok (.iconst 1, 1) := by decide +kernel
theorem dL_members_494 : decode cL_members 494 = .ok (.goto 4, 3) := by decide +kernel
theorem dL_members_497 : decode cL_members 497 = .ok (.iconst 0, 1) := by decide +kernel
theorem dL_members_498 : decode cL_members 498 = .ok (.ireturn, 1) := by decide +kernel
theorem dL_members_499 : decode cL_members 499 = .ok (.iload 5, 2) := by decide +kernel
theorem dL_members_501 : decode cL_members 501 = .ok (.bipush 8, 2) := by decide +kernel
theorem dL_members_503 : decode cL_members 503 = .ok (.if_icmp .ne 182, 3) := by decide +kernel
theorem dL_members_506 : decode cL_members 506 = .ok (.iload_n 2, 1) := by decide +kernel
theorem dL_members_507 : decode cL_members 507 = .ok (.bipush 6, 2) := by decide +kernel
theorem dL_members_509 : decode cL_members 509 = .ok (.ishr, 1) := by decide +kernel
theorem dL_members_510 : decode cL_members 510 = .ok (.iconst 4, 1) := by decide +kernel
theorem dL_members_511 : decode cL_members 511 = .ok (.invokestatic 26, 3) := by decide +kernel
theorem dL_members_514 : decode cL_members 514 = .ok (.ifCond .ne 171, 3) := by decide +kernel
theorem dL_members_517 : decode cL_members 517 = .ok (.aload 4, 2) := by decide +kernel
theorem dL_members_519 : decode cL_members 519 = .ok (.bipush 16, 2) := by decide +kernel
theorem dL_members_521 : decode cL_members 521 = .ok (.iload 6, 2) := by decide +kernel
theorem dL_members_523 : decode cL_members 523 = .ok (.imul, 1) := by decide +kernel
theorem dL_members_524 : decode cL_members 524 = .ok (.iaload, 1) := by decide +kernel
theorem dL_members_525 : decode cL_members 525 = .ok (.ifCond .eq 16, 3) := by decide +kernel
theorem dL_members_528 : decode cL_members 528 = .ok (.aload 4, 2) := by decide +kernel
theorem dL_members_530 : decode cL_members 530 = .ok (.bipush 16, 2) := by decide +kernel
theorem dL_members_532 : decode cL_members 532 = .ok (.iload 6, 2) := by decide +kernel
theorem dL_members_534 : decode cL_members 534 = .ok (.imul, 1) := by decide +kernel
theorem dL_members_535 : decode cL_members 535 = .ok (.iconst 1, 1) := by decide +kernel
theorem dL_members_536 : decode cL_members 536 = .ok (.iadd, 1) := by decide +kernel
theorem dL_members_537 : decode cL_members 537 = .ok (.iaload, 1) := by decide +kernel
theorem dL_members_538 : decode cL_members 538 = .ok (.ifCond .ge 5, 3) := by decide +kernel
theorem dL_members_541 : decode cL_members 541 = .ok (.iconst 1, 1) := by decide +kernel
theorem dL_members_542 : decode cL_members 542 = .ok (.ireturn, 1) := by decide +kernel
theorem dL_members_543 : decode cL_members 543 = .ok (.aload 4, 2) := by decide +kernel
theorem dL_members_545 : decode cL_members 545 = .ok (.bipush 16, 2) := by decide +kernel
theorem dL_members_547 : decode cL_members 547 = .ok (.iload 6, 2) := by decide +kernel
theorem dL_members_549 : decode cL_members 549 = .ok (.imul, 1) := by decide +kernel
theorem dL_members_550 : decode cL_members 550 = .ok (.iconst 1, 1) := by decide +kernel
theorem dL_members_551 : decode cL_members 551 = .ok (.iadd, 1) := by decide +kernel
theorem dL_members_552 : decode cL_members 552 = .ok (.iaload, 1) := by decide +kernel
theorem dL_members_553 : decode cL_members 553 = .ok (.istore 9, 2) := by decide +kernel
theorem dL_members_555 : decode cL_members 555 = .ok (.aload_n 3, 1) := by decide +kernel
theorem dL_members_556 : decode cL_members 556 = .ok (.iconst 1, 1) := by decide +kernel
theorem dL_members_557 : decode cL_members 557 = .ok (.dup2, 1) := by decide +kernel
theorem dL_members_558 : decode cL_members 558 = .ok (.iaload, 1) := by decide +kernel
theorem dL_members_559 : decode cL_members 559 = .ok (.iload 9, 2) := by decide +kernel
theorem dL_members_561 : decode cL_members 561 = .ok (.iadd, 1) := by decide +kernel
theorem dL_members_562 : decode cL_members 562 = .ok (.iastore, 1) := by decide +kernel
theorem dL_members_563 : decode cL_members 563 = .ok (.iconst 0, 1) := by decide +kernel
theorem dL_members_564 : decode cL_members 564 = .ok (.istore 10, 2) := by decide +kernel
theorem dL_members_566 : decode cL_members 566 = .ok (.iload 10, 2) := by decide +kernel
theorem dL_members_568 : decode cL_members 568 = .ok (.iconst 3, 1) := by decide +kernel
theorem dL_members_569 : decode cL_members 569 = .ok (.if_icmp .ge 21, 3) := by decide +kernel
theorem dL_members_572 : decode cL_members 572 = .ok (.aload 4, 2) := by decide +kernel
theorem dL_members_574 : decode cL_members 574 = .ok (.bipush 16, 2) := by decide +kernel
theorem dL_members_576 : decode cL_members 576 = .ok (.iload 6, 2) := by decide +kernel
theorem dL_members_578 : decode cL_members 578 = .ok (.imul, 1) := by decide +kernel
theorem dL_members_579 : decode cL_members 579 = .ok (.iload 10, 2) := by decide +kernel
theorem dL_members_581 : decode cL_members 581 = .ok (.iadd, 1) := by decide +kernel
theorem dL_members_582 : decode cL_members 582 = .ok (.iconst 0, 1) := by decide +kernel
theorem dL_members_583 : decode cL_members 583 = .ok (.iastore, 1) := by decide +kernel
theorem dL_members_584 : decode cL_members 584 = .ok (.iinc 10 1, 3) := by decide +kernel
theorem dL_members_587 : decode cL_members 587 = .ok (.goto (-21), 3) := by decide +kernel
theorem dL_members_590 : decode cL_members 590 = .ok (.aload_n 3, 1) := by decide +kernel
theorem dL_members_591 : decode cL_members 591 = .ok (.bipush 13, 2) := by decide +kernel
theorem dL_members_593 : decode cL_members 593 = .ok (.dup2, 1) := by decide +kernel
theorem dL_members_594 : decode cL_members 594 = .ok (.iaload, 1) := by decide +kernel
theorem dL_members_595 : decode cL_members 595 = .ok (.iconst 1, 1) := by decide +kernel
theorem dL_members_596 : decode cL_members 596 = .ok (.iload 6, 2) := by decide +kernel
theorem dL_members_598 : decode cL_members 598 = .ok (.ishl, 1) := by decide +kernel
theorem dL_members_599 : decode cL_members 599 = .ok (.iconst (-1), 1) := by decide +kernel
theorem dL_members_600 : decode cL_members 600 = .ok (.ixor, 1) := by decide +kernel
theorem dL_members_601 : decode cL_members 601 = .ok (.iand, 1) := by decide +kernel
theorem dL_members_602 : decode cL_members 602 = .ok (.iastore, 1) := by decide +kernel
theorem dL_members_603 : decode cL_members 603 = .ok (.aload_n 3, 1) := by decide +kernel
theorem dL_members_604 : decode cL_members 604 = .ok (.bipush 14, 2) := by decide +kernel
theorem dL_members_606 : decode cL_members 606 = .ok (.dup2, 1) := by decide +kernel
theorem dL_members_607 : decode cL_members 607 = .ok (.iaload, 1) := by decide +kernel
theorem dL_members_608 : decode cL_members 608 = .ok (.iconst 1, 1) := by decide +kernel
theorem dL_members_609 : decode cL_members 609 = .ok (.iload 6, 2) := by decide +kernel
theorem dL_members_611 : decode cL_members 611 = .ok (.ishl, 1) := by decide +kernel
theorem dL_members_612 : decode cL_members 612 = .ok (.iconst (-1), 1) := by decide +kernel
theorem dL_members_613 : decode cL_members 613 = .ok (.ixor, 1) := by decide +kernel
theorem dL_members_614 : decode cL_members 614 = .ok (.iand, 1) := by decide +kernel
theorem dL_members_615 : decode cL_members 615 = .ok (.iastore, 1) := by decide +kernel
theorem dL_members_616 : decode cL_members 616 = .ok (.aload_n 3, 1) := by decide +kernel
theorem dL_members_617 : decode cL_members 617 = .ok (.bipush 11, 2) := by decide +kernel
theorem dL_members_619 : decode cL_members 619 = .ok (.iaload, 1) := by decide +kernel
theorem dL_members_620 : decode cL_members 620 = .ok (.iload 6, 2) := by decide +kernel
theorem dL_members_622 : decode cL_members 622 = .ok (.if_icmp .ne 7, 3) := by decide +kernel
theorem dL_members_625 : decode cL_members 625 = .ok (.aload_n 3, 1) := by decide +kernel
theorem dL_members_626 : decode cL_members 626 = .ok (.invokestatic 18, 3) := by decide +kernel
theorem dL_members_629 : decode cL_members 629 = .ok (.aload_n 3, 1) := by decide +kernel
theorem dL_members_630 : decode cL_members 630 = .ok (.bipush 11, 2) := by decide +kernel
theorem dL_members_632 : decode cL_members 632 = .ok (.iaload, 1) := by decide +kernel
theorem dL_members_633 : decode cL_members 633 = .ok (.ifCond .ge 7, 3) := by decide +kernel
theorem dL_members_636 : decode cL_members 636 = .ok (.iconst 0, 1) := by decide +kernel
theorem dL_members_637 : decode cL_members 637 = .ok (.goto 9, 3) := by decide +kernel
theorem dL_members_640 : decode cL_members 640 = .ok (.aload_n 3, 1) := by decide +kernel
theorem dL_members_641 : decode cL_members 641 = .ok (.aload 4, 2) := by decide +kernel
theorem dL_members_643 : decode cL_members 643 = .ok (.invokestatic 48, 3) := by decide +kernel
theorem dL_members_646 : decode cL_members 646 = .ok (.istore 10, 2) := by decide +kernel
theorem dL_members_648 : decode cL_members 648 = .ok (.aload_n 3, 1) := by decide +kernel
theorem dL_members_649 : decode cL_members 649 = .ok (.iconst 5, 1) := by decide +kernel
theorem dL_members_650 : decode cL_members 650 = .ok (.iaload, 1) := by decide +kernel
theorem dL_members_651 : decode cL_members 651 = .ok (.bipush 6, 2) := by decide +kernel
theorem dL_members_653 : decode cL_members 653 = .ok (.if_icmp .ge 10, 3) := by decide +kernel
theorem dL_members_656 : decode cL_members 656 = .ok (.aload_n 3, 1) := by decide +kernel
theorem dL_members_657 : decode cL_members 657 = .ok (.iconst 5, 1) := by decide +kernel
theorem dL_members_658 : decode cL_members 658 = .ok (.dup2, 1) := by decide +kernel
theorem dL_members_659 : decode cL_members 659 = .ok (.iaload, 1) := by decide +kernel
theorem dL_members_660 : decode cL_members 660 = .ok (.iconst 1, 1) := by decide +kernel
theorem dL_members_661 : decode cL_members 661 = .ok (.iadd, 1) := by decide +kernel
theorem dL_members_662 : decode cL_members 662 = .ok (.iastore, 1) := by decide +kernel
theorem dL_members_663 : decode cL_members 663 = .ok (.aload_n 0, 1) := by decide +kernel
theorem dL_members_664 : decode cL_members 664 = .ok (.iload 6, 2) := by decide +kernel
theorem dL_members_666 : decode cL_members 666 = .ok (.invokevirtual 51, 3) := by decide +kernel
theorem dL_members_669 : decode cL_members 669 = .ok (.iload 9, 2) := by decide +kernel
theorem dL_members_671 : decode cL_members 671 = .ok (.if_icmp .ne 12, 3) := by decide +kernel
theorem dL_members_674 : decode cL_members 674 = .ok (.iload 10, 2) := by decide +kernel
theorem dL_members_676 : decode cL_members 676 = .ok (.ifCond .lt 7, 3) := by decide +kernel
theorem dL_members_679 : decode cL_members 679 = .ok (.iconst 1, 1) := by decide +kernel
theorem dL_members_680 : decode cL_members 680 = .ok (.goto 4, 3) := by decide +kernel
theorem dL_members_683 : decode cL_members 683 = .ok (.iconst 0, 1) := by decide +kernel
theorem dL_members_684 : decode cL_members 684 = .ok (.ireturn, 1) := by decide +kernel
theorem dL_members_685 : decode cL_members 685 = .ok (.iload 5, 2) := by decide +kernel
theorem dL_members_687 : decode cL_members 687 = .ok (.bipush 10, 2) := by decide +kernel
theorem dL_members_689 : decode cL_members 689 = .ok (.if_icmp .ge 109, 3) := by decide +kernel
theorem dL_members_692 : decode cL_members 692 = .ok (.iconst 1, 1) := by decide +kernel
theorem dL_members_693 : decode cL_members 693 = .ok (.iload_n 2, 1) := by decide +kernel
theorem dL_members_694 : decode cL_members 694 = .ok (.iconst 4, 1) := by decide +kernel
theorem dL_members_695 : decode cL_members 695 = .ok (.ishr, 1) := by decide +kernel
theorem dL_members_696 : decode cL_members 696 = .ok (.sipush 200, 3) := by decide +kernel
theorem dL_members_699 : decode cL_members 699 = .ok (.invokestatic 26, 3) := by decide +kernel
theorem dL_members_702 : decode cL_members 702 = .ok (.iadd, 1) := by decide +kernel
theorem dL_members_703 : decode cL_members 703 = .ok (.istore 9, 2) := by decide +kernel
theorem dL_members_705 : decode cL_members 705 = .ok (.aload 4, 2) := by decide +kernel
theorem dL_members_707 : decode cL_members 707 = .ok (.bipush 16, 2) := by decide +kernel
theorem dL_members_709 : decode cL_members 709 = .ok (.iload 6, 2) := by decide +kernel
theorem dL_members_711 : decode cL_members 711 = .ok (.imul, 1) := by decide +kernel
theorem dL_members_712 : decode cL_members 712 = .ok (.iaload, 1) := by decide +kernel
theorem dL_members_713 : decode cL_members 713 = .ok (.ifCond .eq 18, 3) := by decide +kernel
theorem dL_members_716 : decode cL_members 716 = .ok (.aload 4, 2) := by decide +kernel
theorem dL_members_718 : decode cL_members 718 = .ok (.bipush 16, 2) := by decide +kernel
theorem dL_members_720 : decode cL_members 720 = .ok (.iload 6, 2) := by decide +kernel
theorem dL_members_722 : decode cL_members 722 = .ok (.imul, 1) := by decide +kernel
theorem dL_members_723 : decode cL_members 723 = .ok (.iconst 1, 1) := by decide +kernel
theorem dL_members_724 : decode cL_members 724 = .ok (.iadd, 1) := by decide +kernel
theorem dL_members_725 : decode cL_members 725 = .ok (.iaload, 1) := by decide +kernel
theorem dL_members_726 : decode cL_members 726 = .ok (.iload 9, 2) := by decide +kernel
theorem dL_members_728 : decode cL_members 728 = .ok (.if_icmp .ge 5, 3) := by decide +kernel
theorem dL_members_731 : decode cL_members 731 = .ok (.iconst 1, 1) := by decide +kernel
theorem dL_members_732 : decode cL_members 732 = .ok (.ireturn, 1) := by decide +kernel
theorem dL_members_733 : decode cL_members 733 = .ok (.aload 4, 2) := by decide +kernel
theorem dL_members_735 : decode cL_members 735 = .ok (.bipush 16, 2) := by decide +kernel
theorem dL_members_737 : decode cL_members 737 = .ok (.iload 6, 2) := by decide +kernel
theorem dL_members_739 : decode cL_members 739 = .ok (.imul, 1) := by decide +kernel
theorem dL_members_740 : decode cL_members 740 = .ok (.iconst 1, 1) := by decide +kernel
theorem dL_members_741 : decode cL_members 741 = .ok (.iadd, 1) := by decide +kernel
theorem dL_members_742 : decode cL_members 742 = .ok (.dup2, 1) := by decide +kernel
theorem dL_members_743 : decode cL_members 743 = .ok (.iaload, 1) := by decide +kernel
theorem dL_members_744 : decode cL_members 744 = .ok (.iload 9, 2) := by decide +kernel
theorem dL_members_746 : decode cL_members 746 = .ok (.isub, 1) := by decide +kernel
theorem dL_members_747 : decode cL_members 747 = .ok (.iastore, 1) := by decide +kernel
theorem dL_members_748 : decode cL_members 748 = .ok (.aload_n 3, 1) := by decide +kernel
theorem dL_members_749 : decode cL_members 749 = .ok (.iconst 1, 1) := by decide +kernel
theorem dL_members_750 : decode cL_members 750 = .ok (.dup2, 1) := by decide +kernel
theorem dL_members_751 : decode cL_members 751 = .ok (.iaload, 1) := by decide +kernel
theorem dL_members_752 : decode cL_members 752 = .ok (.iload 9, 2) := by decide +kernel
theorem dL_members_754 : decode cL_members 754 = .ok (.iadd, 1) := by decide +kernel
theorem dL_members_755 : decode cL_members 755 = .ok (.iastore, 1) := by decide +kernel
theorem dL_members_756 : decode cL_members 756 = .ok (.aload_n 3, 1) := by decide +kernel
theorem dL_members_757 : decode cL_members 757 = .ok (.iconst 5, 1) := by decide +kernel
theorem dL_members_758 : decode cL_members 758 = .ok (.iaload, 1) := by decide +kernel
theorem dL_members_759 : decode cL_members 759 = .ok (.bipush 6, 2) := by decide +kernel
theorem dL_members_761 : decode cL_members 761 = .ok (.if_icmp .ge 10, 3) := by decide +kernel
theorem dL_members_764 : decode cL_members 764 = .ok (.aload_n 3, 1) := by decide +kernel
theorem dL_members_765 : decode cL_members 765 = .ok (.iconst 5, 1) := by decide +kernel
theorem dL_members_766 : decode cL_members 766 = .ok (.dup2, 1) := by decide +kernel
theorem dL_members_767 : decode cL_members 767 = .ok (.iaload, 1) := by decide +kernel
theorem dL_members_768 : decode cL_members 768 = .ok (.iconst 1, 1) := by decide +kernel
theorem dL_members_769 : decode cL_members 769 = .ok (.iadd, 1) := by decide +kernel
theorem dL_members_770 : decode cL_members 770 = .ok (.iastore, 1) := by decide +kernel
theorem dL_members_771 : decode cL_members 771 = .ok (.aload_n 0, 1) := by decide +kernel
theorem dL_members_772 : decode cL_members 772 = .ok (.iload 6, 2) := by decide +kernel
theorem dL_members_774 : decode cL_members 774 = .ok (.iload 9, 2) := by decide +kernel
theorem dL_members_776 : decode cL_members 776 = .ok (.invokevirtual 54, 3) := by decide +kernel
theorem dL_members_779 : decode cL_members 779 = .ok (.aload 4, 2) := by decide +kernel
theorem dL_members_781 : decode cL_members 781 = .ok (.bipush 16, 2) := by decide +kernel
