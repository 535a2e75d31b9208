theorem dX0_memberProperty_82 : decode cX0_memberProperty 82 = .ok (.getfield 55, 3) := by decide +kernel
theorem dX0_memberProperty_85 : decode cX0_memberProperty 85 = .ok (.ireturn, 1) := by decide +kernel
theorem dX0_memberProperty_86 : decode cX0_memberProperty 86 = .ok (.aload_n 3, 1) := by decide +kernel
theorem dX0_memberProperty_87 : decode cX0_memberProperty 87 = .ok (.getfield 58, 3) := by decide +kernel
theorem dX0_memberProperty_90 : decode cX0_memberProperty 90 = .ok (.ireturn, 1) := by decide +kernel
theorem dX0_memberProperty_91 : decode cX0_memberProperty 91 = .ok (.aload_n 3, 1) := by decide +kernel
theorem dX0_memberProperty_92 : decode cX0_memberProperty 92 = .ok (.getfield 137, 3) := by decide +kernel
theorem dX0_memberProperty_95 : decode cX0_memberProperty 95 = .ok (.ireturn, 1) := by decide +kernel
theorem dX0_memberProperty_96 : decode cX0_memberProperty 96 = .ok (.aload_n 3, 1) := by decide +kernel
theorem dX0_memberProperty_97 : decode cX0_memberProperty 97 = .ok (.getfield 100, 3) := by decide +kernel
theorem dX0_memberProperty_100 : decode cX0_memberProperty 100 = .ok (.ifCond .eq 7, 3) := by decide +kernel
theorem dX0_memberProperty_103 : decode cX0_memberProperty 103 = .ok (.iconst 1, 1) := by decide +kernel
theorem dX0_memberProperty_104 : decode cX0_memberProperty 104 = .ok (.goto 4, 3) := by decide +kernel
theorem dX0_memberProperty_107 : decode cX0_memberProperty 107 = .ok (.iconst 0, 1) := by decide +kernel
theorem dX0_memberProperty_108 : decode cX0_memberProperty 108 = .ok (.ireturn, 1) := by decide +kernel
theorem dX0_memberProperty_109 : decode cX0_memberProperty 109 = .ok (.aload_n 3, 1) := by decide +kernel
theorem dX0_memberProperty_110 : decode cX0_memberProperty 110 = .ok (.getfield 106, 3) := by decide +kernel
theorem dX0_memberProperty_113 : decode cX0_memberProperty 113 = .ok (.ireturn, 1) := by decide +kernel
theorem dX0_memberProperty_114 : decode cX0_memberProperty 114 = .ok (.aload_n 3, 1) := by decide +kernel
theorem dX0_memberProperty_115 : decode cX0_memberProperty 115 = .ok (.getfield 97, 3) := by decide +kernel
theorem dX0_memberProperty_118 : decode cX0_memberProperty 118 = .ok (.ireturn, 1) := by decide +kernel
theorem dX0_memberProperty_119 : decode cX0_memberProperty 119 = .ok (.aload_n 3, 1) := by decide +kernel
theorem dX0_memberProperty_120 : decode cX0_memberProperty 120 = .ok (.getfield 103, 3) := by decide +kernel
theorem dX0_memberProperty_123 : decode cX0_memberProperty 123 = .ok (.ireturn, 1) := by decide +kernel
theorem dX0_memberProperty_124 : decode cX0_memberProperty 124 = .ok (.aload_n 3, 1) := by decide +kernel
theorem dX0_memberProperty_125 : decode cX0_memberProperty 125 = .ok (.getfield 94, 3) := by decide +kernel
theorem dX0_memberProperty_128 : decode cX0_memberProperty 128 = .ok (.ireturn, 1) := by decide +kernel
theorem dX0_memberProperty_129 : decode cX0_memberProperty 129 = .ok (.aload_n 3, 1) := by decide +kernel
theorem dX0_memberProperty_130 : decode cX0_memberProperty 130 = .ok (.getfield 143, 3) := by decide +kernel
theorem dX0_memberProperty_133 : decode cX0_memberProperty 133 = .ok (.ireturn, 1) := by decide +kernel
theorem dX0_memberProperty_134 : decode cX0_memberProperty 134 = .ok (.aload_n 3, 1) := by decide +kernel
theorem dX0_memberProperty_135 : decode cX0_memberProperty 135 = .ok (.getfield 162, 3) := by decide +kernel
theorem dX0_memberProperty_138 : decode cX0_memberProperty 138 = .ok (.ireturn, 1) := by decide +kernel
theorem dX0_memberProperty_139 : decode cX0_memberProperty 139 = .ok (.aload_n 0, 1) := by decide +kernel
theorem dX0_memberProperty_140 : decode cX0_memberProperty 140 = .ok (.iload_n 1, 1) := by decide +kernel
theorem dX0_memberProperty_141 : decode cX0_memberProperty 141 = .ok (.invokevirtual 166, 3) := by decide +kernel
theorem dX0_memberProperty_144 : decode cX0_memberProperty 144 = .ok (.ifCond .eq 7, 3) := by decide +kernel
theorem dX0_memberProperty_147 : decode cX0_memberProperty 147 = .ok (.iconst 1, 1) := by decide +kernel
theorem dX0_memberProperty_148 : decode cX0_memberProperty 148 = .ok (.goto 4, 3) := by decide +kernel
theorem dX0_memberProperty_151 : decode cX0_memberProperty 151 = .ok (.iconst 0, 1) := by decide +kernel
theorem dX0_memberProperty_152 : decode cX0_memberProperty 152 = .ok (.ireturn, 1) := by decide +kernel
theorem dX1_init_0 : decode cX1_init 0 = .ok (.aload_n 0, 1) := by decide +kernel
theorem dX1_init_1 : decode cX1_init 1 = .ok (.invokespecial 3, 3) := by decide +kernel
theorem dX1_init_4 : decode cX1_init 4 = .ok (.aload_n 0, 1) := by decide +kernel
theorem dX1_init_5 : decode cX1_init 5 = .ok (.iconst 0, 1) := by decide +kernel
theorem dX1_init_6 : decode cX1_init 6 = .ok (.putfield 11, 3) := by decide +kernel
theorem dX1_init_9 : decode cX1_init 9 = .ok (.return_, 1) := by decide +kernel
theorem dX2_init_0 : decode cX2_init 0 = .ok (.aload_n 0, 1) := by decide +kernel
theorem dX2_init_1 : decode cX2_init 1 = .ok (.invokespecial 3, 3) := by decide +kernel
theorem dX2_init_4 : decode cX2_init 4 = .ok (.aload_n 0, 1) := by decide +kernel
theorem dX2_init_5 : decode cX2_init 5 = .ok (.bipush 60, 2) := by decide +kernel
theorem dX2_init_7 : decode cX2_init 7 = .ok (.newarray .char, 2) := by decide +kernel
theorem dX2_init_9 : decode cX2_init 9 = .ok (.putfield 9, 3) := by decide +kernel
theorem dX2_init_12 : decode cX2_init 12 = .ok (.aload_n 0, 1) := by decide +kernel
theorem dX2_init_13 : decode cX2_init 13 = .ok (.new 15, 3) := by decide +kernel
theorem dX2_init_16 : decode cX2_init 16 = .ok (.dup, 1) := by decide +kernel
theorem dX2_init_17 : decode cX2_init 17 = .ok (.invokespecial 17, 3) := by decide +kernel
theorem dX2_init_20 : decode cX2_init 20 = .ok (.putfield 18, 3) := by decide +kernel
theorem dX2_init_23 : decode cX2_init 23 = .ok (.return_, 1) := by decide +kernel
theorem dX3_init_0 : decode cX3_init 0 = .ok (.aload_n 0, 1) := by decide +kernel
theorem dX3_init_1 : decode cX3_init 1 = .ok (.invokespecial 3, 3) := by decide +kernel
theorem dX3_init_4 : decode cX3_init 4 = .ok (.aload_n 0, 1) := by decide +kernel
theorem dX3_init_5 : decode cX3_init 5 = .ok (.bipush 6, 2) := by decide +kernel
theorem dX3_init_7 : decode cX3_init 7 = .ok (.anewarray 9, 3) := by decide +kernel
theorem dX3_init_10 : decode cX3_init 10 = .ok (.putfield 11, 3) := by decide +kernel
theorem dX3_init_13 : decode cX3_init 13 = .ok (.iconst 0, 1) := by decide +kernel
theorem dX3_init_14 : decode cX3_init 14 = .ok (.istore_n 1, 1) := by decide +kernel
theorem dX3_init_15 : decode cX3_init 15 = .ok (.iload_n 1, 1) := by decide +kernel
theorem dX3_init_16 : decode cX3_init 16 = .ok (.bipush 6, 2) := by decide +kernel
theorem dX3_init_18 : decode cX3_init 18 = .ok (.if_icmp .ge 22, 3) := by decide +kernel
theorem dX3_init_21 : decode cX3_init 21 = .ok (.aload_n 0, 1) := by decide +kernel
theorem dX3_init_22 : decode cX3_init 22 = .ok (.getfield 11, 3) := by decide +kernel
theorem dX3_init_25 : decode cX3_init 25 = .ok (.iload_n 1, 1) := by decide +kernel
theorem dX3_init_26 : decode cX3_init 26 = .ok (.new 9, 3) := by decide +kernel
theorem dX3_init_29 : decode cX3_init 29 = .ok (.dup, 1) := by decide +kernel
theorem dX3_init_30 : decode cX3_init 30 = .ok (.invokespecial 17, 3) := by decide +kernel
theorem dX3_init_33 : decode cX3_init 33 = .ok (.aastore, 1) := by decide +kernel
theorem dX3_init_34 : decode cX3_init 34 = .ok (.iinc 1 1, 3) := by decide +kernel
theorem dX3_init_37 : decode cX3_init 37 = .ok (.goto (-22), 3) := by decide +kernel
theorem dX3_init_40 : decode cX3_init 40 = .ok (.return_, 1) := by decide +kernel
theorem dX3_keep_0 : decode cX3_keep 0 = .ok (.aload_n 0, 1) := by decide +kernel
theorem dX3_keep_1 : decode cX3_keep 1 = .ok (.getfield 11, 3) := by decide +kernel
theorem dX3_keep_4 : decode cX3_keep 4 = .ok (.aload_n 0, 1) := by decide +kernel
theorem dX3_keep_5 : decode cX3_keep 5 = .ok (.getfield 18, 3) := by decide +kernel
theorem dX3_keep_8 : decode cX3_keep 8 = .ok (.aaload, 1) := by decide +kernel
theorem dX3_keep_9 : decode cX3_keep 9 = .ok (.aload_n 1, 1) := by decide +kernel
theorem dX3_keep_10 : decode cX3_keep 10 = .ok (.invokevirtual 22, 3) := by decide +kernel
theorem dX3_keep_13 : decode cX3_keep 13 = .ok (.aload_n 0, 1) := by decide +kernel
theorem dX3_keep_14 : decode cX3_keep 14 = .ok (.aload_n 0, 1) := by decide +kernel
theorem dX3_keep_15 : decode cX3_keep 15 = .ok (.getfield 18, 3) := by decide +kernel
theorem dX3_keep_18 : decode cX3_keep 18 = .ok (.iconst 1, 1) := by decide +kernel
theorem dX3_keep_19 : decode cX3_keep 19 = .ok (.iadd, 1) := by decide +kernel
theorem dX3_keep_20 : decode cX3_keep 20 = .ok (.bipush 6, 2) := by decide +kernel
theorem dX3_keep_22 : decode cX3_keep 22 = .ok (.irem, 1) := by decide +kernel
theorem dX3_keep_23 : decode cX3_keep 23 = .ok (.putfield 18, 3) := by decide +kernel
theorem dX3_keep_26 : decode cX3_keep 26 = .ok (.aload_n 0, 1) := by decide +kernel
theorem dX3_keep_27 : decode cX3_keep 27 = .ok (.aload_n 0, 1) := by decide +kernel
theorem dX3_keep_28 : decode cX3_keep 28 = .ok (.getfield 26, 3) := by decide +kernel
theorem dX3_keep_31 : decode cX3_keep 31 = .ok (.iconst 1, 1) := by decide +kernel
theorem dX3_keep_32 : decode cX3_keep 32 = .ok (.iadd, 1) := by decide +kernel
theorem dX3_keep_33 : decode cX3_keep 33 = .ok (.bipush 6, 2) := by decide +kernel
theorem dX3_keep_35 : decode cX3_keep 35 = .ok (.invokestatic 29, 3) := by decide +kernel
theorem dX3_keep_38 : decode cX3_keep 38 = .ok (.putfield 26, 3) := by decide +kernel
theorem dX3_keep_41 : decode cX3_keep 41 = .ok (.return_, 1) := by decide +kernel
theorem dX4_init_0 : decode cX4_init 0 = .ok (.aload_n 0, 1) := by decide +kernel
theorem dX4_init_1 : decode cX4_init 1 = .ok (.invokespecial 3, 3) := by decide +kernel
theorem dX4_init_4 : decode cX4_init 4 = .ok (.aload_n 0, 1) := by decide +kernel
theorem dX4_init_5 : decode cX4_init 5 = .ok (.iconst 5, 1) := by decide +kernel
theorem dX4_init_6 : decode cX4_init 6 = .ok (.newarray .int, 2) := by decide +kernel
theorem dX4_init_8 : decode cX4_init 8 = .ok (.putfield 9, 3) := by decide +kernel
theorem dX4_init_11 : decode cX4_init 11 = .ok (.return_, 1) := by decide +kernel
theorem dX4_copyFrom_0 : decode cX4_copyFrom 0 = .ok (.iconst 0, 1) := by decide +kernel
theorem dX4_copyFrom_1 : decode cX4_copyFrom 1 = .ok (.istore_n 2, 1) := by decide +kernel
theorem dX4_copyFrom_2 : decode cX4_copyFrom 2 = .ok (.iload_n 2, 1) := by decide +kernel
theorem dX4_copyFrom_3 : decode cX4_copyFrom 3 = .ok (.iconst 5, 1) := by decide +kernel
theorem dX4_copyFrom_4 : decode cX4_copyFrom 4 = .ok (.if_icmp .ge 21, 3) := by decide +kernel
theorem dX4_copyFrom_7 : decode cX4_copyFrom 7 = .ok (.aload_n 0, 1) := by decide +kernel
theorem dX4_copyFrom_8 : decode cX4_copyFrom 8 = .ok (.getfield 9, 3) := by decide +kernel
theorem dX4_copyFrom_11 : decode cX4_copyFrom 11 = .ok (.iload_n 2, 1) := by decide +kernel
theorem dX4_copyFrom_12 : decode cX4_copyFrom 12 = .ok (.aload_n 1, 1) := by decide +kernel
theorem dX4_copyFrom_13 : decode cX4_copyFrom 13 = .ok (.getfield 9, 3) := by decide +kernel
theorem dX4_copyFrom_16 : decode cX4_copyFrom 16 = .ok (.iload_n 2, 1) := by decide +kernel
theorem dX4_copyFrom_17 : decode cX4_copyFrom 17 = .ok (.iaload, 1) := by decide +kernel
theorem dX4_copyFrom_18 : decode cX4_copyFrom 18 = .ok (.iastore, 1) := by decide +kernel
theorem dX4_copyFrom_19 : decode cX4_copyFrom 19 = .ok (.iinc 2 1, 3) := by decide +kernel
theorem dX4_copyFrom_22 : decode cX4_copyFrom 22 = .ok (.goto (-20), 3) := by decide +kernel
theorem dX4_copyFrom_25 : decode cX4_copyFrom 25 = .ok (.aload_n 0, 1) := by decide +kernel
theorem dX4_copyFrom_26 : decode cX4_copyFrom 26 = .ok (.aload_n 1, 1) := by decide +kernel
theorem dX4_copyFrom_27 : decode cX4_copyFrom 27 = .ok (.getfield 15, 3) := by decide +kernel
theorem dX4_copyFrom_30 : decode cX4_copyFrom 30 = .ok (.putfield 15, 3) := by decide +kernel
theorem dX4_copyFrom_33 : decode cX4_copyFrom 33 = .ok (.aload_n 0, 1) := by decide +kernel
theorem dX4_copyFrom_34 : decode cX4_copyFrom 34 = .ok (.aload_n 1, 1) := by decide +kernel
theorem dX4_copyFrom_35 : decode cX4_copyFrom 35 = .ok (.getfield 19, 3) := by decide +kernel
theorem dX4_copyFrom_38 : decode cX4_copyFrom 38 = .ok (.putfield 19, 3) := by decide +kernel
theorem dX4_copyFrom_41 : decode cX4_copyFrom 41 = .ok (.aload_n 0, 1) := by decide +kernel
theorem dX4_copyFrom_42 : decode cX4_copyFrom 42 = .ok (.aload_n 1, 1) := by decide +kernel
theorem dX4_copyFrom_43 : decode cX4_copyFrom 43 = .ok (.getfield 22, 3) := by decide +kernel
theorem dX4_copyFrom_46 : decode cX4_copyFrom 46 = .ok (.putfield 22, 3) := by decide +kernel
theorem dX4_copyFrom_49 : decode cX4_copyFrom 49 = .ok (.aload_n 0, 1) := by decide +kernel
theorem dX4_copyFrom_50 : decode cX4_copyFrom 50 = .ok (.aload_n 1, 1) := by decide +kernel
theorem dX4_copyFrom_51 : decode cX4_copyFrom 51 = .ok (.getfield 26, 3) := by decide +kernel
theorem dX4_copyFrom_54 : decode cX4_copyFrom 54 = .ok (.putfield 26, 3) := by decide +kernel
theorem dX4_copyFrom_57 : decode cX4_copyFrom 57 = .ok (.aload_n 0, 1) := by decide +kernel
theorem dX4_copyFrom_58 : decode cX4_copyFrom 58 = .ok (.aload_n 1, 1) := by decide +kernel
theorem dX4_copyFrom_59 : decode cX4_copyFrom 59 = .ok (.getfield 29, 3) := by decide +kernel
theorem dX4_copyFrom_62 : decode cX4_copyFrom 62 = .ok (.putfield 29, 3) := by decide +kernel
theorem dX4_copyFrom_65 : decode cX4_copyFrom 65 = .ok (.aload_n 0, 1) := by decide +kernel
theorem dX4_copyFrom_66 : decode cX4_copyFrom 66 = .ok (.aload_n 1, 1) := by decide +kernel
theorem dX4_copyFrom_67 : decode cX4_copyFrom 67 = .ok (.getfield 32, 3) := by decide +kernel
theorem dX4_copyFrom_70 : decode cX4_copyFrom 70 = .ok (.putfield 32, 3) := by decide +kernel
theorem dX4_copyFrom_73 : decode cX4_copyFrom 73 = .ok (.aload_n 0, 1) := by decide +kernel
theorem dX4_copyFrom_74 : decode cX4_copyFrom 74 = .ok (.aload_n 1, 1) := by decide +kernel
theorem dX4_copyFrom_75 : decode cX4_copyFrom 75 = .ok (.getfield 35, 3) := by decide +kernel
theorem dX4_copyFrom_78 : decode cX4_copyFrom 78 = .ok (.putfield 35, 3) := by decide +kernel
theorem dX4_copyFrom_81 : decode cX4_copyFrom 81 = .ok (.aload_n 0, 1) := by decide +kernel
theorem dX4_copyFrom_82 : decode cX4_copyFrom 82 = .ok (.aload_n 1, 1) := by decide +kernel
theorem dX4_copyFrom_83 : decode cX4_copyFrom 83 = .ok (.getfield 38, 3) := by decide +kernel
theorem dX4_copyFrom_86 : decode cX4_copyFrom 86 = .ok (.putfield 38, 3) := by decide +kernel
theorem dX4_copyFrom_89 : decode cX4_copyFrom 89 = .ok (.aload_n 0, 1) := by decide +kernel
theorem dX4_copyFrom_90 : decode cX4_copyFrom 90 = .ok (.aload_n 1, 1) := by decide +kernel
theorem dX4_copyFrom_91 : decode cX4_copyFrom 91 = .ok (.getfield 41, 3) := by decide +kernel
theorem dX4_copyFrom_94 : decode cX4_copyFrom 94 = .ok (.putfield 41, 3) := by decide +kernel
theorem dX4_copyFrom_97 : decode cX4_copyFrom 97 = .ok (.aload_n 0, 1) := by decide +kernel
theorem dX4_copyFrom_98 : decode cX4_copyFrom 98 = .ok (.aload_n 1, 1) := by decide +kernel
theorem dX4_copyFrom_99 : decode cX4_copyFrom 99 = .ok (.getfield 44, 3) := by decide +kernel
theorem dX4_copyFrom_102 : decode cX4_copyFrom 102 = .ok (.putfield 44, 3) := by decide +kernel
theorem dX4_copyFrom_105 : decode cX4_copyFrom 105 = .ok (.aload_n 0, 1) := by decide +kernel
theorem dX4_copyFrom_106 : decode cX4_copyFrom 106 = .ok (.aload_n 1, 1) := by decide +kernel
theorem dX4_copyFrom_107 : decode cX4_copyFrom 107 = .ok (.getfield 47, 3) := by decide +kernel
theorem dX4_copyFrom_110 : decode cX4_copyFrom 110 = .ok (.putfield 47, 3) := by decide +kernel
theorem dX4_copyFrom_113 : decode cX4_copyFrom 113 = .ok (.aload_n 0, 1) := by decide +kernel
theorem dX4_copyFrom_114 : decode cX4_copyFrom 114 = .ok (.aload_n 1, 1) := by decide +kernel
theorem dX4_copyFrom_115 : decode cX4_copyFrom 115 = .ok (.getfield 50, 3) := by decide +kernel
theorem dX4_copyFrom_118 : decode cX4_copyFrom 118 = .ok (.putfield 50, 3) := by decide +kernel
theorem dX4_copyFrom_121 : decode cX4_copyFrom 121 = .ok (.return_, 1) := by decide +kernel
theorem dX4_ripeness_0 : decode cX4_ripeness 0 = .ok (.aload_n 0, 1) := by decide +kernel
theorem dX4_ripeness_1 : decode cX4_ripeness 1 = .ok (.getfield 9, 3) := by decide +kernel
theorem dX4_ripeness_4 : decode cX4_ripeness 4 = .ok (.iload_n 1, 1) := by decide +kernel
theorem dX4_ripeness_5 : decode cX4_ripeness 5 = .ok (.iaload, 1) := by decide +kernel
theorem dX4_ripeness_6 : decode cX4_ripeness 6 = .ok (.sipush 300, 3) := by decide +kernel
theorem dX4_ripeness_9 : decode cX4_ripeness 9 = .ok (.idiv, 1) := by decide +kernel
theorem dX4_ripeness_10 : decode cX4_ripeness 10 = .ok (.bipush 9, 2) := by decide +kernel
theorem dX4_ripeness_12 : decode cX4_ripeness 12 = .ok (.invokestatic 53, 3) := by decide +kernel
theorem dX4_ripeness_15 : decode cX4_ripeness 15 = .ok (.ireturn, 1) := by decide +kernel
theorem dX4_dealRate_0 : decode cX4_dealRate 0 = .ok (.bipush 10, 2) := by decide +kernel
theorem dX4_dealRate_2 : decode cX4_dealRate 2 = .ok (.aload_n 0, 1) := by decide +kernel
theorem dX4_dealRate_3 : decode cX4_dealRate 3 = .ok (.iload_n 1, 1) := by decide +kernel
theorem dX4_dealRate_4 : decode cX4_dealRate 4 = .ok (.invokevirtual 59, 3) := by decide +kernel
theorem dX4_dealRate_7 : decode cX4_dealRate 7 = .ok (.iadd, 1) := by decide +kernel
theorem dX4_dealRate_8 : decode cX4_dealRate 8 = .ok (.ireturn, 1) := by decide +kernel
theorem dX4_dealValue_0 : decode cX4_dealValue 0 = .ok (.iload_n 2, 1) := by decide +kernel
theorem dX4_dealValue_1 : decode cX4_dealValue 1 = .ok (.aload_n 0, 1) := by decide +kernel
theorem dX4_dealValue_2 : decode cX4_dealValue 2 = .ok (.iload_n 1, 1) := by decide +kernel
theorem dX4_dealValue_3 : decode cX4_dealValue 3 = .ok (.invokevirtual 63, 3) := by decide +kernel
theorem dX4_dealValue_6 : decode cX4_dealValue 6 = .ok (.imul, 1) := by decide +kernel
theorem dX4_dealValue_7 : decode cX4_dealValue 7 = .ok (.bipush 10, 2) := by decide +kernel
theorem dX4_dealValue_9 : decode cX4_dealValue 9 = .ok (.idiv, 1) := by decide +kernel
theorem dX4_dealValue_10 : decode cX4_dealValue 10 = .ok (.ireturn, 1) := by decide +kernel
theorem dX4_practise_0 : decode cX4_practise 0 = .ok (.aload_n 0, 1) := by decide +kernel
theorem dX4_practise_1 : decode cX4_practise 1 = .ok (.getfield 9, 3) := by decide +kernel
theorem dX4_practise_4 : decode cX4_practise 4 = .ok (.iload_n 1, 1) := by decide +kernel
theorem dX4_practise_5 : decode cX4_practise 5 = .ok (.aload_n 0, 1) := by decide +kernel
theorem dX4_practise_6 : decode cX4_practise 6 = .ok (.getfield 9, 3) := by decide +kernel
theorem dX4_practise_9 : decode cX4_practise 9 = .ok (.iload_n 1, 1) := by decide +kernel
theorem dX4_practise_10 : decode cX4_practise 10 = .ok (.iaload, 1) := by decide +kernel
theorem dX4_practise_11 : decode cX4_practise 11 = .ok (.iload_n 2, 1) := by decide +kernel
theorem dX4_practise_12 : decode cX4_practise 12 = .ok (.iadd, 1) := by decide +kernel
theorem dX4_practise_13 : decode cX4_practise 13 = .ok (.sipush 9999, 3) := by decide +kernel
theorem dX4_practise_16 : decode cX4_practise 16 = .ok (.invokestatic 53, 3) := by decide +kernel
theorem dX4_practise_19 : decode cX4_practise 19 = .ok (.iastore, 1) := by decide +kernel
theorem dX4_practise_20 : decode cX4_practise 20 = .ok (.return_, 1) := by decide +kernel
theorem dX4_rust_0 : decode cX4_rust 0 = .ok (.iconst 0, 1) := by decide +kernel
theorem dX4_rust_1 : decode cX4_rust 1 = .ok (.istore_n 2, 1) := by decide +kernel
theorem dX4_rust_2 : decode cX4_rust 2 = .ok (.iload_n 2, 1) := by decide +kernel
theorem dX4_rust_3 : decode cX4_rust 3 = .ok (.iconst 5, 1) := by decide +kernel
theorem dX4_rust_4 : decode cX4_rust 4 = .ok (.if_icmp .ge 27, 3) := by decide +kernel
theorem dX4_rust_7 : decode cX4_rust 7 = .ok (.aload_n 0, 1) := by decide +kernel
theorem dX4_rust_8 : decode cX4_rust 8 = .ok (.getfield 9, 3) := by decide +kernel
theorem dX4_rust_11 : decode cX4_rust 11 = .ok (.iload_n 2, 1) := by decide +kernel
theorem dX4_rust_12 : decode cX4_rust 12 = .ok (.aload_n 0, 1) := by decide +kernel
theorem dX4_rust_13 : decode cX4_rust 13 = .ok (.getfield 9, 3) := by decide +kernel
theorem dX4_rust_16 : decode cX4_rust 16 = .ok (.iload_n 2, 1) := by decide +kernel
theorem dX4_rust_17 : decode cX4_rust 17 = .ok (.iaload, 1) := by decide +kernel
theorem dX4_rust_18 : decode cX4_rust 18 = .ok (.iload_n 1, 1) := by decide +kernel
theorem dX4_rust_19 : decode cX4_rust 19 = .ok (.isub, 1) := by decide +kernel
theorem dX4_rust_20 : decode cX4_rust 20 = .ok (.iconst 0, 1) := by decide +kernel
theorem dX4_rust_21 : decode cX4_rust 21 = .ok (.invokestatic 66, 3) := by decide +kernel
theorem dX4_rust_24 : decode cX4_rust 24 = .ok (.iastore, 1) := by decide +kernel
theorem dX4_rust_25 : decode cX4_rust 25 = .ok (.iinc 2 1, 3) := by decide +kernel
theorem dX4_rust_28 : decode cX4_rust 28 = .ok (.goto (-26), 3) := by decide +kernel
theorem dX4_rust_31 : decode cX4_rust 31 = .ok (.return_, 1) := by decide +kernel
theorem dX5_init_0 : decode cX5_init 0 = .ok (.aload_n 0, 1) := by decide +kernel
theorem dX5_init_1 : decode cX5_init 1 = .ok (.invokespecial 1, 3) := by decide +kernel
theorem dX5_init_4 : decode cX5_init 4 = .ok (.aload_n 0, 1) := by decide +kernel
theorem dX5_init_5 : decode cX5_init 5 = .ok (.new 7, 3) := by decide +kernel
theorem dX5_init_8 : decode cX5_init 8 = .ok (.dup, 1) := by decide +kernel
theorem dX5_init_9 : decode cX5_init 9 = .ok (.invokespecial 9, 3) := by decide +kernel
theorem dX5_init_12 : decode cX5_init 12 = .ok (.putfield 10, 3) := by decide +kernel
theorem dX5_init_15 : decode cX5_init 15 = .ok (.aload_n 0, 1) := by decide +kernel
theorem dX5_init_16 : decode cX5_init 16 = .ok (.new 16, 3) := by decide +kernel
theorem dX5_init_19 : decode cX5_init 19 = .ok (.dup, 1) := by decide +kernel
theorem dX5_init_20 : decode cX5_init 20 = .ok (.invokespecial 18, 3) := by decide +kernel
theorem dX5_init_23 : decode cX5_init 23 = .ok (.putfield 19, 3) := by decide +kernel
theorem dX5_init_26 : decode cX5_init 26 = .ok (.aload_n 0, 1) := by decide +kernel
theorem dX5_init_27 : decode cX5_init 27 = .ok (.new 23, 3) := by decide +kernel
theorem dX5_init_30 : decode cX5_init 30 = .ok (.dup, 1) := by decide +kernel
theorem dX5_init_31 : decode cX5_init 31 = .ok (.invokespecial 25, 3) := by decide +kernel
theorem dX5_init_34 : decode cX5_init 34 = .ok (.putfield 26, 3) := by decide +kernel
theorem dX5_init_37 : decode cX5_init 37 = .ok (.return_, 1) := by decide +kernel
theorem dX5_join_0 : decode cX5_join 0 = .ok (.aload_n 0, 1) := by decide +kernel
theorem dX5_join_1 : decode cX5_join 1 = .ok (.getfield 10, 3) := by decide +kernel
theorem dX5_join_4 : decode cX5_join 4 = .ok (.getfield 30, 3) := by decide +kernel
theorem dX5_join_7 : decode cX5_join 7 = .ok (.bipush 8, 2) := by decide +kernel
theorem dX5_join_9 : decode cX5_join 9 = .ok (.if_icmp .lt 13, 3) := by decide +kernel
theorem dX5_join_12 : decode cX5_join 12 = .ok (.new 34, 3) := by decide +kernel
theorem dX5_join_15 : decode cX5_join 15 = .ok (.dup, 1) := by decide +kernel
theorem dX5_join_16 : decode cX5_join 16 = .ok (.ldc 36, 2) := by decide +kernel
theorem dX5_join_18 : decode cX5_join 18 = .ok (.invokespecial 38, 3) := by decide +kernel
theorem dX5_join_21 : decode cX5_join 21 = .ok (.athrow, 1) := by decide +kernel
theorem dX5_join_22 : decode cX5_join 22 = .ok (.aload_n 0, 1) := by decide +kernel
theorem dX5_join_23 : decode cX5_join 23 = .ok (.getfield 19, 3) := by decide +kernel
theorem dX5_join_26 : decode cX5_join 26 = .ok (.aload_n 0, 1) := by decide +kernel
theorem dX5_join_27 : decode cX5_join 27 = .ok (.getfield 10, 3) := by decide +kernel
theorem dX5_join_30 : decode cX5_join 30 = .ok (.invokevirtual 41, 3) := by decide +kernel
theorem dX5_join_33 : decode cX5_join 33 = .ok (.aload_n 0, 1) := by decide +kernel
theorem dX5_join_34 : decode cX5_join 34 = .ok (.getfield 10, 3) := by decide +kernel
theorem dX5_join_37 : decode cX5_join 37 = .ok (.invokevirtual 45, 3) := by decide +kernel
theorem dX5_join_40 : decode cX5_join 40 = .ok (.ireturn, 1) := by decide +kernel
theorem dX5_leave_0 : decode cX5_leave 0 = .ok (.aload_n 0, 1) := by decide +kernel
theorem dX5_leave_1 : decode cX5_leave 1 = .ok (.getfield 10, 3) := by decide +kernel
theorem dX5_leave_4 : decode cX5_leave 4 = .ok (.iload_n 1, 1) := by decide +kernel
theorem dX5_leave_5 : decode cX5_leave 5 = .ok (.invokevirtual 49, 3) := by decide +kernel
theorem dX5_leave_8 : decode cX5_leave 8 = .ok (.ifCond .ne 13, 3) := by decide +kernel
theorem dX5_leave_11 : decode cX5_leave 11 = .ok (.new 53, 3) := by decide +kernel
theorem dX5_leave_14 : decode cX5_leave 14 = .ok (.dup, 1) := by decide +kernel
theorem dX5_leave_15 : decode cX5_leave 15 = .ok (.ldc 55, 2) := by decide +kernel
theorem dX5_leave_17 : decode cX5_leave 17 = .ok (.invokespecial 57, 3) := by decide +kernel
theorem dX5_leave_20 : decode cX5_leave 20 = .ok (.athrow, 1) := by decide +kernel
theorem dX5_leave_21 : decode cX5_leave 21 = .ok (.aload_n 0, 1) := by decide +kernel
theorem dX5_leave_22 : decode cX5_leave 22 = .ok (.getfield 10, 3) := by decide +kernel
theorem dX5_leave_25 : decode cX5_leave 25 = .ok (.getfield 58, 3) := by decide +kernel
theorem dX5_leave_28 : decode cX5_leave 28 = .ok (.iload_n 1, 1) := by decide +kernel
theorem dX5_leave_29 : decode cX5_leave 29 = .ok (.aaload, 1) := by decide +kernel
theorem dX5_leave_30 : decode cX5_leave 30 = .ok (.getfield 62, 3) := by decide +kernel
theorem dX5_leave_33 : decode cX5_leave 33 = .ok (.ifCond .eq 18, 3) := by decide +kernel
theorem dX5_leave_36 : decode cX5_leave 36 = .ok (.aload_n 0, 1) := by decide +kernel
theorem dX5_leave_37 : decode cX5_leave 37 = .ok (.getfield 10, 3) := by decide +kernel
theorem dX5_leave_40 : decode cX5_leave 40 = .ok (.getfield 58, 3) := by decide +kernel
theorem dX5_leave_43 : decode cX5_leave 43 = .ok (.iload_n 1, 1) := by decide +kernel
theorem dX5_leave_44 : decode cX5_leave 44 = .ok (.aaload, 1) := by decide +kernel
theorem dX5_leave_45 : decode cX5_leave 45 = .ok (.getfield 68, 3) := by decide +kernel
theorem dX5_leave_48 : decode cX5_leave 48 = .ok (.ifCond .ge 13, 3) := by decide +kernel
theorem dX5_leave_51 : decode cX5_leave 51 = .ok (.new 34, 3) := by decide +kernel
theorem dX5_leave_54 : decode cX5_leave 54 = .ok (.dup, 1) := by decide +kernel
theorem dX5_leave_55 : decode cX5_leave 55 = .ok (.ldc 71, 2) := by decide +kernel
theorem dX5_leave_57 : decode cX5_leave 57 = .ok (.invokespecial 38, 3) := by decide +kernel
theorem dX5_leave_60 : decode cX5_leave 60 = .ok (.athrow, 1) := by decide +kernel
theorem dX5_leave_61 : decode cX5_leave 61 = .ok (.aload_n 0, 1) := by decide +kernel
theorem dX5_leave_62 : decode cX5_leave 62 = .ok (.getfield 19, 3) := by decide +kernel
theorem dX5_leave_65 : decode cX5_leave 65 = .ok (.aload_n 0, 1) := by decide +kernel
theorem dX5_leave_66 : decode cX5_leave 66 = .ok (.getfield 10, 3) := by decide +kernel
theorem dX5_leave_69 : decode cX5_leave 69 = .ok (.invokevirtual 41, 3) := by decide +kernel
theorem dX5_leave_72 : decode cX5_leave 72 = .ok (.aload_n 0, 1) := by decide +kernel
theorem dX5_leave_73 : decode cX5_leave 73 = .ok (.getfield 10, 3) := by decide +kernel
theorem dX5_leave_76 : decode cX5_leave 76 = .ok (.iload_n 1, 1) := by decide +kernel
theorem dX5_leave_77 : decode cX5_leave 77 = .ok (.invokevirtual 73, 3) := by decide +kernel
theorem dX5_leave_80 : decode cX5_leave 80 = .ok (.ireturn, 1) := by decide +kernel
theorem dX5_give_0 : decode cX5_give 0 = .ok (.aload_n 0, 1) := by decide +kernel
theorem dX5_give_1 : decode cX5_give 1 = .ok (.getfield 10, 3) := by decide +kernel
theorem dX5_give_4 : decode cX5_give 4 = .ok (.iload_n 1, 1) := by decide +kernel
theorem dX5_give_5 : decode cX5_give 5 = .ok (.invokevirtual 49, 3) := by decide +kernel
theorem dX5_give_8 : decode cX5_give 8 = .ok (.ifCond .eq 21, 3) := by decide +kernel
theorem dX5_give_11 : decode cX5_give 11 = .ok (.aload_n 0, 1) := by decide +kernel
theorem dX5_give_12 : decode cX5_give 12 = .ok (.getfield 10, 3) := by decide +kernel
theorem dX5_give_15 : decode cX5_give 15 = .ok (.iload_n 2, 1) := by decide +kernel
theorem dX5_give_16 : decode cX5_give 16 = .ok (.invokevirtual 49, 3) := by decide +kernel
theorem dX5_give_19 : decode cX5_give 19 = .ok (.ifCond .eq 10, 3) := by decide +kernel
theorem dX5_give_22 : decode cX5_give 22 = .ok (.iload_n 3, 1) := by decide +kernel
theorem dX5_give_23 : decode cX5_give 23 = .ok (.invokestatic 77, 3) := by decide +kernel
theorem dX5_give_26 : decode cX5_give 26 = .ok (.ifCond .ne 13, 3) := by decide +kernel
theorem dX5_give_29 : decode cX5_give 29 = .ok (.new 53, 3) := by decide +kernel
theorem dX5_give_32 : decode cX5_give 32 = .ok (.dup, 1) := by decide +kernel
theorem dX5_give_33 : decode cX5_give 33 = .ok (.ldc 80, 2) := by decide +kernel
theorem dX5_give_35 : decode cX5_give 35 = .ok (.invokespecial 57, 3) := by decide +kernel
theorem dX5_give_38 : decode cX5_give 38 = .ok (.athrow, 1) := by decide +kernel
theorem dX5_give_39 : decode cX5_give 39 = .ok (.iload_n 1, 1) := by decide +kernel
theorem dX5_give_40 : decode cX5_give 40 = .ok (.iload_n 2, 1) := by decide +kernel
theorem dX5_give_41 : decode cX5_give 41 = .ok (.if_icmp .eq 11, 3) := by decide +kernel
theorem dX5_give_44 : decode cX5_give 44 = .ok (.iload 4, 2) := by decide +kernel
theorem dX5_give_46 : decode cX5_give 46 = .ok (.invokestatic 82, 3) := by decide +kernel
theorem dX5_give_49 : decode cX5_give 49 = .ok (.ifCond .ne 13, 3) := by decide +kernel
theorem dX5_give_52 : decode cX5_give 52 = .ok (.new 85, 3) := by decide +kernel
theorem dX5_give_55 : decode cX5_give 55 = .ok (.dup, 1) := by decide +kernel
theorem dX5_give_56 : decode cX5_give 56 = .ok (.ldc 87, 2) := by decide +kernel
theorem dX5_give_58 : decode cX5_give 58 = .ok (.invokespecial 89, 3) := by decide +kernel
theorem dX5_give_61 : decode cX5_give 61 = .ok (.athrow, 1) := by decide +kernel
theorem dX5_give_62 : decode cX5_give 62 = .ok (.aload_n 0, 1) := by decide +kernel
theorem dX5_give_63 : decode cX5_give 63 = .ok (.getfield 10, 3) := by decide +kernel
theorem dX5_give_66 : decode cX5_give 66 = .ok (.iload_n 1, 1) := by decide +kernel
theorem dX5_give_67 : decode cX5_give 67 = .ok (.iload_n 2, 1) := by decide +kernel
theorem dX5_give_68 : decode cX5_give 68 = .ok (.iload_n 3, 1) := by decide +kernel
theorem dX5_give_69 : decode cX5_give 69 = .ok (.iload 4, 2) := by decide +kernel
theorem dX5_give_71 : decode cX5_give 71 = .ok (.invokevirtual 90, 3) := by decide +kernel
theorem dX5_give_74 : decode cX5_give 74 = .ok (.ifCond .ne 13, 3) := by decide +kernel
theorem dX5_give_77 : decode cX5_give 77 = .ok (.new 34, 3) := by decide +kernel
theorem dX5_give_80 : decode cX5_give 80 = .ok (.dup, 1) := by decide +kernel
theorem dX5_give_81 : decode cX5_give 81 = .ok (.ldc 94, 2) := by decide +kernel
theorem dX5_give_83 : decode cX5_give 83 = .ok (.invokespecial 38, 3) := by decide +kernel
theorem dX5_give_86 : decode cX5_give 86 = .ok (.athrow, 1) := by decide +kernel
theorem dX5_give_87 : decode cX5_give 87 = .ok (.aload_n 0, 1) := by decide +kernel
theorem dX5_give_88 : decode cX5_give 88 = .ok (.getfield 19, 3) := by decide +kernel
theorem dX5_give_91 : decode cX5_give 91 = .ok (.aload_n 0, 1) := by decide +kernel
theorem dX5_give_92 : decode cX5_give 92 = .ok (.getfield 10, 3) := by decide +kernel
theorem dX5_give_95 : decode cX5_give 95 = .ok (.invokevirtual 41, 3) := by decide +kernel
theorem dX5_give_98 : decode cX5_give 98 = .ok (.aload_n 0, 1) := by decide +kernel
theorem dX5_give_99 : decode cX5_give 99 = .ok (.getfield 10, 3) := by decide +kernel
theorem dX5_give_102 : decode cX5_give 102 = .ok (.iload_n 1, 1) := by decide +kernel
theorem dX5_give_103 : decode cX5_give 103 = .ok (.iload_n 2, 1) := by decide +kernel
theorem dX5_give_104 : decode cX5_give 104 = .ok (.iload_n 3, 1) := by decide +kernel
theorem dX5_give_105 : decode cX5_give 105 = .ok (.iload 4, 2) := by decide +kernel
theorem dX5_give_107 : decode cX5_give 107 = .ok (.invokevirtual 96, 3) := by decide +kernel
theorem dX5_give_110 : decode cX5_give 110 = .ok (.ireturn, 1) := by decide +kernel
theorem dX5_donate_0 : decode cX5_donate 0 = .ok (.aload_n 0, 1) := by decide +kernel
theorem dX5_donate_1 : decode cX5_donate 1 = .ok (.getfield 10, 3) := by decide +kernel
theorem dX5_donate_4 : decode cX5_donate 4 = .ok (.iload_n 1, 1) := by decide +kernel
theorem dX5_donate_5 : decode cX5_donate 5 = .ok (.invokevirtual 49, 3) := by decide +kernel
theorem dX5_donate_8 : decode cX5_donate 8 = .ok (.ifCond .ne 13, 3) := by decide +kernel
theorem dX5_donate_11 : decode cX5_donate 11 = .ok (.new 53, 3) := by decide +kernel
theorem dX5_donate_14 : decode cX5_donate 14 = .ok (.dup, 1) := by decide +kernel
theorem dX5_donate_15 : decode cX5_donate 15 = .ok (.ldc 55, 2) := by decide +kernel
theorem dX5_donate_17 : decode cX5_donate 17 = .ok (.invokespecial 57, 3) := by decide +kernel
theorem dX5_donate_20 : decode cX5_donate 20 = .ok (.athrow, 1) := by decide +kernel
theorem dX5_donate_21 : decode cX5_donate 21 = .ok (.iload_n 2, 1) := by decide +kernel
theorem dX5_donate_22 : decode cX5_donate 22 = .ok (.iconst 1, 1) := by decide +kernel
theorem dX5_donate_23 : decode cX5_donate 23 = .ok (.sipush 999, 3) := by decide +kernel
theorem dX5_donate_26 : decode cX5_donate 26 = .ok (.invokestatic 100, 3) := by decide +kernel
theorem dX5_donate_29 : decode cX5_donate 29 = .ok (.ifCond .ne 13, 3) := by decide +kernel
theorem dX5_donate_32 : decode cX5_donate 32 = .ok (.new 85, 3) := by decide +kernel
theorem dX5_donate_35 : decode cX5_donate 35 = .ok (.dup, 1) := by decide +kernel
theorem dX5_donate_36 : decode cX5_donate 36 = .ok (.ldc 104, 2) := by decide +kernel
theorem dX5_donate_38 : decode cX5_donate 38 = .ok (.invokespecial 89, 3) := by decide +kernel
theorem dX5_donate_41 : decode cX5_donate 41 = .ok (.athrow, 1) := by decide +kernel
theorem dX5_donate_42 : decode cX5_donate 42 = .ok (.aload_n 0, 1) := by decide +kernel
theorem dX5_donate_43 : decode cX5_donate 43 = .ok (.getfield 10, 3) := by decide +kernel
theorem dX5_donate_46 : decode cX5_donate 46 = .ok (.getfield 58, 3) := by decide +kernel
theorem dX5_donate_49 : decode cX5_donate 49 = .ok (.iload_n 1, 1) := by decide +kernel
theorem dX5_donate_50 : decode cX5_donate 50 = .ok (.aaload, 1) := by decide +kernel
theorem dX5_donate_51 : decode cX5_donate 51 = .ok (.getfield 62, 3) := by decide +kernel
theorem dX5_donate_54 : decode cX5_donate 54 = .ok (.ifCond .eq 19, 3) := by decide +kernel
theorem dX5_donate_57 : decode cX5_donate 57 = .ok (.aload_n 0, 1) := by decide +kernel
theorem dX5_donate_58 : decode cX5_donate 58 = .ok (.getfield 10, 3) := by decide +kernel
theorem dX5_donate_61 : decode cX5_donate 61 = .ok (.getfield 58, 3) := by decide +kernel
theorem dX5_donate_64 : decode cX5_donate 64 = .ok (.iload_n 1, 1) := by decide +kernel
theorem dX5_donate_65 : decode cX5_donate 65 = .ok (.aaload, 1) := by decide +kernel
theorem dX5_donate_66 : decode cX5_donate 66 = .ok (.getfield 68, 3) := by decide +kernel
theorem dX5_donate_69 : decode cX5_donate 69 = .ok (.iload_n 2, 1) := by decide +kernel
theorem dX5_donate_70 : decode cX5_donate 70 = .ok (.if_icmp .ge 13, 3) := by decide +kernel
theorem dX5_donate_73 : decode cX5_donate 73 = .ok (.new 34, 3) := by decide +kernel
theorem dX5_donate_76 : decode cX5_donate 76 = .ok (.dup, 1) := by decide +kernel
theorem dX5_donate_77 : decode cX5_donate 77 = .ok (.ldc 106, 2) := by decide +kernel
theorem dX5_donate_79 : decode cX5_donate 79 = .ok (.invokespecial 38, 3) := by decide +kernel
theorem dX5_donate_82 : decode cX5_donate 82 = .ok (.athrow, 1) := by decide +kernel
theorem dX5_donate_83 : decode cX5_donate 83 = .ok (.aload_n 0, 1) := by decide +kernel
theorem dX5_donate_84 : decode cX5_donate 84 = .ok (.getfield 19, 3) := by decide +kernel
theorem dX5_donate_87 : decode cX5_donate 87 = .ok (.aload_n 0, 1) := by decide +kernel
theorem dX5_donate_88 : decode cX5_donate 88 = .ok (.getfield 10, 3) := by decide +kernel
theorem dX5_donate_91 : decode cX5_donate 91 = .ok (.invokevirtual 41, 3) := by decide +kernel
theorem dX5_donate_94 : decode cX5_donate 94 = .ok (.aload_n 0, 1) := by decide +kernel
theorem dX5_donate_95 : decode cX5_donate 95 = .ok (.getfield 10, 3) := by decide +kernel
theorem dX5_donate_98 : decode cX5_donate 98 = .ok (.iload_n 1, 1) := by decide +kernel
theorem dX5_donate_99 : decode cX5_donate 99 = .ok (.iload_n 2, 1) := by decide +kernel
theorem dX5_donate_100 : decode cX5_donate 100 = .ok (.invokevirtual 108, 3) := by decide +kernel
theorem dX5_donate_103 : decode cX5_donate 103 = .ok (.aload_n 0, 1) := by decide +kernel
theorem dX5_donate_104 : decode cX5_donate 104 = .ok (.getfield 10, 3) := by decide +kernel
theorem dX5_donate_107 : decode cX5_donate 107 = .ok (.getfield 58, 3) := by decide +kernel
theorem dX5_donate_110 : decode cX5_donate 110 = .ok (.iload_n 1, 1) := by decide +kernel
theorem dX5_donate_111 : decode cX5_donate 111 = .ok (.aaload, 1) := by decide +kernel
theorem dX5_donate_112 : decode cX5_donate 112 = .ok (.getfield 68, 3) := by decide +kernel
theorem dX5_donate_115 : decode cX5_donate 115 = .ok (.ireturn, 1) := by decide +kernel
theorem dX5_pass_0 : decode cX5_pass 0 = .ok (.iload_n 1, 1) := by decide +kernel
theorem dX5_pass_1 : decode cX5_pass 1 = .ok (.iconst 1, 1) := by decide +kernel
theorem dX5_pass_2 : decode cX5_pass 2 = .ok (.bipush 50, 2) := by decide +kernel
theorem dX5_pass_4 : decode cX5_pass 4 = .ok (.invokestatic 100, 3) := by decide +kernel
theorem dX5_pass_7 : decode cX5_pass 7 = .ok (.ifCond .ne 13, 3) := by decide +kernel
theorem dX5_pass_10 : decode cX5_pass 10 = .ok (.new 85, 3) := by decide +kernel
theorem dX5_pass_13 : decode cX5_pass 13 = .ok (.dup, 1) := by decide +kernel
theorem dX5_pass_14 : decode cX5_pass 14 = .ok (.ldc 112, 2) := by decide +kernel
theorem dX5_pass_16 : decode cX5_pass 16 = .ok (.invokespecial 89, 3) := by decide +kernel
theorem dX5_pass_19 : decode cX5_pass 19 = .ok (.athrow, 1) := by decide +kernel
theorem dX5_pass_20 : decode cX5_pass 20 = .ok (.aload_n 0, 1) := by decide +kernel
theorem dX5_pass_21 : decode cX5_pass 21 = .ok (.getfield 10, 3) := by decide +kernel
theorem dX5_pass_24 : decode cX5_pass 24 = .ok (.getfield 114, 3) := by decide +kernel
theorem dX5_pass_27 : decode cX5_pass 27 = .ok (.iload_n 1, 1) := by decide +kernel
theorem dX5_pass_28 : decode cX5_pass 28 = .ok (.iadd, 1) := by decide +kernel
theorem dX5_pass_29 : decode cX5_pass 29 = .ok (.sipush 2000, 3) := by decide +kernel
theorem dX5_pass_32 : decode cX5_pass 32 = .ok (.if_icmp .le 13, 3) := by decide +kernel
theorem dX5_pass_35 : decode cX5_pass 35 = .ok (.new 34, 3) := by decide +kernel
theorem dX5_pass_38 : decode cX5_pass 38 = .ok (.dup, 1) := by decide +kernel
theorem dX5_pass_39 : decode cX5_pass 39 = .ok (.ldc 117, 2) := by decide +kernel
theorem dX5_pass_41 : decode cX5_pass 41 = .ok (.invokespecial 38, 3) := by decide +kernel
theorem dX5_pass_44 : decode cX5_pass 44 = .ok (.athrow, 1) := by decide +kernel
theorem dX5_pass_45 : decode cX5_pass 45 = .ok (.aload_n 0, 1) := by decide +kernel
theorem dX5_pass_46 : decode cX5_pass 46 = .ok (.getfield 19, 3) := by decide +kernel
theorem dX5_pass_49 : decode cX5_pass 49 = .ok (.aload_n 0, 1) := by decide +kernel
theorem dX5_pass_50 : decode cX5_pass 50 = .ok (.getfield 10, 3) := by decide +kernel
theorem dX5_pass_53 : decode cX5_pass 53 = .ok (.invokevirtual 41, 3) := by decide +kernel
theorem dX5_pass_56 : decode cX5_pass 56 = .ok (.iconst 0, 1) := by decide +kernel
theorem dX5_pass_57 : decode cX5_pass 57 = .ok (.istore_n 2, 1) := by decide +kernel
theorem dX5_pass_58 : decode cX5_pass 58 = .ok (.iconst 0, 1) := by decide +kernel
theorem dX5_pass_59 : decode cX5_pass 59 = .ok (.istore_n 3, 1) := by decide +kernel
theorem dX5_pass_60 : decode cX5_pass 60 = .ok (.iload_n 3, 1) := by decide +kernel
theorem dX5_pass_61 : decode cX5_pass 61 = .ok (.iload_n 1, 1) := by decide +kernel
theorem dX5_pass_62 : decode cX5_pass 62 = .ok (.if_icmp .ge 19, 3) := by decide +kernel
theorem dX5_pass_65 : decode cX5_pass 65 = .ok (.iload_n 2, 1) := by decide +kernel
theorem dX5_pass_66 : decode cX5_pass 66 = .ok (.aload_n 0, 1) := by decide +kernel
theorem dX5_pass_67 : decode cX5_pass 67 = .ok (.getfield 10, 3) := by decide +kernel
theorem dX5_pass_70 : decode cX5_pass 70 = .ok (.invokevirtual 119, 3) := by decide +kernel
theorem dX5_pass_73 : decode cX5_pass 73 = .ok (.iadd, 1) := by decide +kernel
theorem dX5_pass_74 : decode cX5_pass 74 = .ok (.istore_n 2, 1) := by decide +kernel
theorem dX5_pass_75 : decode cX5_pass 75 = .ok (.iinc 3 1, 3) := by decide +kernel
theorem dX5_pass_78 : decode cX5_pass 78 = .ok (.goto (-18), 3) := by decide +kernel
theorem dX5_pass_81 : decode cX5_pass 81 = .ok (.iload_n 2, 1) := by decide +kernel
theorem dX5_pass_82 : decode cX5_pass 82 = .ok (.ireturn, 1) := by decide +kernel
theorem dX5_set_0 : decode cX5_set 0 = .ok (.iload_n 1, 1) := by decide +kernel
theorem dX5_set_1 : decode cX5_set 1 = .ok (.invokestatic 122, 3) := by decide +kernel
theorem dX5_set_4 : decode cX5_set 4 = .ok (.ifCond .ne 13, 3) := by decide +kernel
theorem dX5_set_7 : decode cX5_set 7 = .ok (.new 53, 3) := by decide +kernel
theorem dX5_set_10 : decode cX5_set 10 = .ok (.dup, 1) := by decide +kernel
theorem dX5_set_11 : decode cX5_set 11 = .ok (.ldc 125, 2) := by decide +kernel
theorem dX5_set_13 : decode cX5_set 13 = .ok (.invokespecial 57, 3) := by decide +kernel
theorem dX5_set_16 : decode cX5_set 16 = .ok (.athrow, 1) := by decide +kernel
theorem dX5_set_17 : decode cX5_set 17 = .ok (.iload_n 2, 1) := by decide +kernel
theorem dX5_set_18 : decode cX5_set 18 = .ok (.iconst 0, 1) := by decide +kernel
theorem dX5_set_19 : decode cX5_set 19 = .ok (.getstatic 127, 3) := by decide +kernel
theorem dX5_set_22 : decode cX5_set 22 = .ok (.iload_n 1, 1) := by decide +kernel
theorem dX5_set_23 : decode cX5_set 23 = .ok (.iaload, 1) := by decide +kernel
theorem dX5_set_24 : decode cX5_set 24 = .ok (.invokestatic 100, 3) := by decide +kernel
theorem dX5_set_27 : decode cX5_set 27 = .ok (.ifCond .ne 13, 3) := by decide +kernel
theorem dX5_set_30 : decode cX5_set 30 = .ok (.new 85, 3) := by decide +kernel
theorem dX5_set_33 : decode cX5_set 33 = .ok (.dup, 1) := by decide +kernel
theorem dX5_set_34 : decode cX5_set 34 = .ok (.ldc 131, 2) := by decide +kernel
theorem dX5_set_36 : decode cX5_set 36 = .ok (.invokespecial 89, 3) := by decide +kernel
theorem dX5_set_39 : decode cX5_set 39 = .ok (.athrow, 1) := by decide +kernel
theorem dX5_set_40 : decode cX5_set 40 = .ok (.aload_n 0, 1) := by decide +kernel
theorem dX5_set_41 : decode cX5_set 41 = .ok (.getfield 19, 3) := by decide +kernel
theorem dX5_set_44 : decode cX5_set 44 = .ok (.aload_n 0, 1) := by decide +kernel
theorem dX5_set_45 : decode cX5_set 45 = .ok (.getfield 10, 3) := by decide +kernel
theorem dX5_set_48 : decode cX5_set 48 = .ok (.invokevirtual 41, 3) := by decide +kernel
theorem dX5_set_51 : decode cX5_set 51 = .ok (.aload_n 0, 1) := by decide +kernel
theorem dX5_set_52 : decode cX5_set 52 = .ok (.getfield 10, 3) := by decide +kernel
theorem dX5_set_55 : decode cX5_set 55 = .ok (.getfield 133, 3) := by decide +kernel
theorem dX5_set_58 : decode cX5_set 58 = .ok (.iload_n 1, 1) := by decide +kernel
theorem dX5_set_59 : decode cX5_set 59 = .ok (.iaload, 1) := by decide +kernel
theorem dX5_set_60 : decode cX5_set 60 = .ok (.istore_n 3, 1) := by decide +kernel
theorem dX5_set_61 : decode cX5_set 61 = .ok (.aload_n 0, 1) := by decide +kernel
theorem dX5_set_62 : decode cX5_set 62 = .ok (.getfield 10, 3) := by decide +kernel
theorem dX5_set_65 : decode cX5_set 65 = .ok (.getfield 133, 3) := by decide +kernel
theorem dX5_set_68 : decode cX5_set 68 = .ok (.iload_n 1, 1) := by decide +kernel
theorem dX5_set_69 : decode cX5_set 69 = .ok (.iload_n 2, 1) := by decide +kernel
theorem dX5_set_70 : decode cX5_set 70 = .ok (.iastore, 1) := by decide +kernel
theorem dX5_set_71 : decode cX5_set 71 = .ok (.iload_n 3, 1) := by decide +kernel
theorem dX5_set_72 : decode cX5_set 72 = .ok (.ireturn, 1) := by decide +kernel
theorem dX5_move_0 : decode cX5_move 0 = .ok (.aload_n 0, 1) := by decide +kernel
theorem dX5_move_1 : decode cX5_move 1 = .ok (.getfield 10, 3) := by decide +kernel
theorem dX5_move_4 : decode cX5_move 4 = .ok (.iload_n 1, 1) := by decide +kernel
theorem dX5_move_5 : decode cX5_move 5 = .ok (.invokevirtual 49, 3) := by decide +kernel
theorem dX5_move_8 : decode cX5_move 8 = .ok (.ifCond .ne 13, 3) := by decide +kernel
theorem dX5_move_11 : decode cX5_move 11 = .ok (.new 53, 3) := by decide +kernel
theorem dX5_move_14 : decode cX5_move 14 = .ok (.dup, 1) := by decide +kernel
theorem dX5_move_15 : decode cX5_move 15 = .ok (.ldc 55, 2) := by decide +kernel
theorem dX5_move_17 : decode cX5_move 17 = .ok (.invokespecial 57, 3) := by decide +kernel
theorem dX5_move_20 : decode cX5_move 20 = .ok (.athrow, 1) := by decide +kernel
theorem dX5_move_21 : decode cX5_move 21 = .ok (.iload_n 2, 1) := by decide +kernel
theorem dX5_move_22 : decode cX5_move 22 = .ok (.iconst 1, 1) := by decide +kernel
theorem dX5_move_23 : decode cX5_move 23 = .ok (.if_icmp .ge 13, 3) := by decide +kernel
theorem dX5_move_26 : decode cX5_move 26 = .ok (.new 85, 3) := by decide +kernel
theorem dX5_move_29 : decode cX5_move 29 = .ok (.dup, 1) := by decide +kernel
theorem dX5_move_30 : decode cX5_move 30 = .ok (.ldc 136, 2) := by decide +kernel
theorem dX5_move_32 : decode cX5_move 32 = .ok (.invokespecial 89, 3) := by decide +kernel
theorem dX5_move_35 : decode cX5_move 35 = .ok (.athrow, 1) := by decide +kernel
theorem dX5_move_36 : decode cX5_move 36 = .ok (.aload_n 0, 1) := by decide +kernel
theorem dX5_move_37 : decode cX5_move 37 = .ok (.getfield 10, 3) := by decide +kernel
theorem dX5_move_40 : decode cX5_move 40 = .ok (.iload_n 1, 1) := by decide +kernel
theorem dX5_move_41 : decode cX5_move 41 = .ok (.iload_n 2, 1) := by decide +kernel
theorem dX5_move_42 : decode cX5_move 42 = .ok (.invokevirtual 138, 3) := by decide +kernel
theorem dX5_move_45 : decode cX5_move 45 = .ok (.ifCond .ne 13, 3) := by decide +kernel
theorem dX5_move_48 : decode cX5_move 48 = .ok (.new 34, 3) := by decide +kernel
theorem dX5_move_51 : decode cX5_move 51 = .ok (.dup, 1) := by decide +kernel
theorem dX5_move_52 : decode cX5_move 52 = .ok (.ldc 142, 2) := by decide +kernel
theorem dX5_move_54 : decode cX5_move 54 = .ok (.invokespecial 38, 3) := by decide +kernel
theorem dX5_move_57 : decode cX5_move 57 = .ok (.athrow, 1) := by decide +kernel
theorem dX5_move_58 : decode cX5_move 58 = .ok (.aload_n 0, 1) := by decide +kernel
theorem dX5_move_59 : decode cX5_move 59 = .ok (.getfield 19, 3) := by decide +kernel
theorem dX5_move_62 : decode cX5_move 62 = .ok (.aload_n 0, 1) := by decide +kernel
theorem dX5_move_63 : decode cX5_move 63 = .ok (.getfield 10, 3) := by decide +kernel
theorem dX5_move_66 : decode cX5_move 66 = .ok (.invokevirtual 41, 3) := by decide +kernel
theorem dX5_move_69 : decode cX5_move 69 = .ok (.aload_n 0, 1) := by decide +kernel
theorem dX5_move_70 : decode cX5_move 70 = .ok (.getfield 10, 3) := by decide +kernel
theorem dX5_move_73 : decode cX5_move 73 = .ok (.iload_n 1, 1) := by decide +kernel
theorem dX5_move_74 : decode cX5_move 74 = .ok (.iload_n 2, 1) := by decide +kernel
theorem dX5_move_75 : decode cX5_move 75 = .ok (.invokevirtual 144, 3) := by decide +kernel
theorem dX5_move_78 : decode cX5_move 78 = .ok (.aload_n 0, 1) := by decide +kernel
theorem dX5_move_79 : decode cX5_move 79 = .ok (.getfield 10, 3) := by decide +kernel
theorem dX5_move_82 : decode cX5_move 82 = .ok (.invokevirtual 147, 3) := by decide +kernel
theorem dX5_move_85 : decode cX5_move 85 = .ok (.ireturn, 1) := by decide +kernel
theorem dX5_vote_0 : decode cX5_vote 0 = .ok (.aload_n 0, 1) := by decide +kernel
theorem dX5_vote_1 : decode cX5_vote 1 = .ok (.getfield 10, 3) := by decide +kernel
theorem dX5_vote_4 : decode cX5_vote 4 = .ok (.iload_n 1, 1) := by decide +kernel
theorem dX5_vote_5 : decode cX5_vote 5 = .ok (.invokevirtual 49, 3) := by decide +kernel
theorem dX5_vote_8 : decode cX5_vote 8 = .ok (.ifCond .ne 13, 3) := by decide +kernel
theorem dX5_vote_11 : decode cX5_vote 11 = .ok (.new 53, 3) := by decide +kernel
theorem dX5_vote_14 : decode cX5_vote 14 = .ok (.dup, 1) := by decide +kernel
theorem dX5_vote_15 : decode cX5_vote 15 = .ok (.ldc 55, 2) := by decide +kernel
theorem dX5_vote_17 : decode cX5_vote 17 = .ok (.invokespecial 57, 3) := by decide +kernel
theorem dX5_vote_20 : decode cX5_vote 20 = .ok (.athrow, 1) := by decide +kernel
theorem dX5_vote_21 : decode cX5_vote 21 = .ok (.aload_n 0, 1) := by decide +kernel
theorem dX5_vote_22 : decode cX5_vote 22 = .ok (.getfield 10, 3) := by decide +kernel
theorem dX5_vote_25 : decode cX5_vote 25 = .ok (.iload_n 1, 1) := by decide +kernel
theorem dX5_vote_26 : decode cX5_vote 26 = .ok (.invokevirtual 150, 3) := by decide +kernel
theorem dX5_vote_29 : decode cX5_vote 29 = .ok (.ifCond .ne 13, 3) := by decide +kernel
theorem dX5_vote_32 : decode cX5_vote 32 = .ok (.new 34, 3) := by decide +kernel
theorem dX5_vote_35 : decode cX5_vote 35 = .ok (.dup, 1) := by decide +kernel
theorem dX5_vote_36 : decode cX5_vote 36 = .ok (.ldc 153, 2) := by decide +kernel
theorem dX5_vote_38 : decode cX5_vote 38 = .ok (.invokespecial 38, 3) := by decide +kernel
theorem dX5_vote_41 : decode cX5_vote 41 = .ok (.athrow, 1) := by decide +kernel
theorem dX5_vote_42 : decode cX5_vote 42 = .ok (.aload_n 0, 1) := by decide +kernel
theorem dX5_vote_43 : decode cX5_vote 43 = .ok (.getfield 19, 3) := by decide +kernel
theorem dX5_vote_46 : decode cX5_vote 46 = .ok (.aload_n 0, 1) := by decide +kernel
theorem dX5_vote_47 : decode cX5_vote 47 = .ok (.getfield 10, 3) := by decide +kernel
theorem dX5_vote_50 : decode cX5_vote 50 = .ok (.invokevirtual 41, 3) := by decide +kernel
theorem dX5_vote_53 : decode cX5_vote 53 = .ok (.aload_n 0, 1) := by decide +kernel
theorem dX5_vote_54 : decode cX5_vote 54 = .ok (.getfield 10, 3) := by decide +kernel
theorem dX5_vote_57 : decode cX5_vote 57 = .ok (.getfield 58, 3) := by decide +kernel
theorem dX5_vote_60 : decode cX5_vote 60 = .ok (.iload_n 1, 1) := by decide +kernel
theorem dX5_vote_61 : decode cX5_vote 61 = .ok (.aaload, 1) := by decide +kernel
theorem dX5_vote_62 : decode cX5_vote 62 = .ok (.iload_n 2, 1) := by decide +kernel
theorem dX5_vote_63 : decode cX5_vote 63 = .ok (.ifCond .eq 7, 3) := by decide +kernel
theorem dX5_vote_66 : decode cX5_vote 66 = .ok (.iconst 1, 1) := by decide +kernel
theorem dX5_vote_67 : decode cX5_vote 67 = .ok (.goto 4, 3) := by decide +kernel
theorem dX5_vote_70 : decode cX5_vote 70 = .ok (.iconst 2, 1) := by decide +kernel
theorem dX5_vote_71 : decode cX5_vote 71 = .ok (.putfield 155, 3) := by decide +kernel
theorem dX5_vote_74 : decode cX5_vote 74 = .ok (.aload_n 0, 1) := by decide +kernel
theorem dX5_vote_75 : decode cX5_vote 75 = .ok (.getfield 10, 3) := by decide +kernel
theorem dX5_vote_78 : decode cX5_vote 78 = .ok (.invokevirtual 158, 3) := by decide +kernel
theorem dX5_vote_81 : decode cX5_vote 81 = .ok (.ireturn, 1) := by decide +kernel
theorem dX5_takeBack_0 : decode cX5_takeBack 0 = .ok (.aload_n 0, 1) := by decide +kernel
theorem dX5_takeBack_1 : decode cX5_takeBack 1 = .ok (.getfield 10, 3) := by decide +kernel
theorem dX5_takeBack_4 : decode cX5_takeBack 4 = .ok (.invokevirtual 161, 3) := by decide +kernel
theorem dX5_takeBack_7 : decode cX5_takeBack 7 = .ok (.ifCond .ne 13, 3) := by decide +kernel
theorem dX5_takeBack_10 : decode cX5_takeBack 10 = .ok (.new 34, 3) := by decide +kernel
theorem dX5_takeBack_13 : decode cX5_takeBack 13 = .ok (.dup, 1) := by decide +kernel
theorem dX5_takeBack_14 : decode cX5_takeBack 14 = .ok (.ldc 165, 2) := by decide +kernel
theorem dX5_takeBack_16 : decode cX5_takeBack 16 = .ok (.invokespecial 38, 3) := by decide +kernel
theorem dX5_takeBack_19 : decode cX5_takeBack 19 = .ok (.athrow, 1) := by decide +kernel
theorem dX5_takeBack_20 : decode cX5_takeBack 20 = .ok (.aload_n 0, 1) := by decide +kernel
theorem dX5_takeBack_21 : decode cX5_takeBack 21 = .ok (.getfield 19, 3) := by decide +kernel
theorem dX5_takeBack_24 : decode cX5_takeBack 24 = .ok (.aload_n 0, 1) := by decide +kernel
theorem dX5_takeBack_25 : decode cX5_takeBack 25 = .ok (.getfield 10, 3) := by decide +kernel
theorem dX5_takeBack_28 : decode cX5_takeBack 28 = .ok (.invokevirtual 41, 3) := by decide +kernel
theorem dX5_takeBack_31 : decode cX5_takeBack 31 = .ok (.aload_n 0, 1) := by decide +kernel
theorem dX5_takeBack_32 : decode cX5_takeBack 32 = .ok (.getfield 10, 3) := by decide +kernel
theorem dX5_takeBack_35 : decode cX5_takeBack 35 = .ok (.iconst 1, 1) := by decide +kernel
theorem dX5_takeBack_36 : decode cX5_takeBack 36 = .ok (.invokevirtual 167, 3) := by decide +kernel
theorem dX5_takeBack_39 : decode cX5_takeBack 39 = .ok (.aload_n 0, 1) := by decide +kernel
theorem dX5_takeBack_40 : decode cX5_takeBack 40 = .ok (.getfield 10, 3) := by decide +kernel
theorem dX5_takeBack_43 : decode cX5_takeBack 43 = .ok (.iconst 2, 1) := by decide +kernel
theorem dX5_takeBack_44 : decode cX5_takeBack 44 = .ok (.invokevirtual 167, 3) := by decide +kernel
theorem dX5_takeBack_47 : decode cX5_takeBack 47 = .ok (.iadd, 1) := by decide +kernel
theorem dX5_takeBack_48 : decode cX5_takeBack 48 = .ok (.istore_n 1, 1) := by decide +kernel
theorem dX5_takeBack_49 : decode cX5_takeBack 49 = .ok (.aload_n 0, 1) := by decide +kernel
theorem dX5_takeBack_50 : decode cX5_takeBack 50 = .ok (.getfield 10, 3) := by decide +kernel
theorem dX5_takeBack_53 : decode cX5_takeBack 53 = .ok (.invokevirtual 170, 3) := by decide +kernel
theorem dX5_takeBack_56 : decode cX5_takeBack 56 = .ok (.iload_n 1, 1) := by decide +kernel
theorem dX5_takeBack_57 : decode cX5_takeBack 57 = .ok (.ireturn, 1) := by decide +kernel
theorem dX5_member_0 : decode cX5_member 0 = .ok (.aload_n 0, 1) := by decide +kernel
theorem dX5_member_1 : decode cX5_member 1 = .ok (.getfield 10, 3) := by decide +kernel
theorem dX5_member_4 : decode cX5_member 4 = .ok (.iload_n 1, 1) := by decide +kernel
theorem dX5_member_5 : decode cX5_member 5 = .ok (.invokevirtual 49, 3) := by decide +kernel
theorem dX5_member_8 : decode cX5_member 8 = .ok (.ifCond .ne 13, 3) := by decide +kernel
theorem dX5_member_11 : decode cX5_member 11 = .ok (.new 53, 3) := by decide +kernel
theorem dX5_member_14 : decode cX5_member 14 = .ok (.dup, 1) := by decide +kernel
theorem dX5_member_15 : decode cX5_member 15 = .ok (.ldc 55, 2) := by decide +kernel
theorem dX5_member_17 : decode cX5_member 17 = .ok (.invokespecial 57, 3) := by decide +kernel
theorem dX5_member_20 : decode cX5_member 20 = .ok (.athrow, 1) := by decide +kernel
theorem dX5_member_21 : decode cX5_member 21 = .ok (.iload_n 2, 1) := by decide +kernel
theorem dX5_member_22 : decode cX5_member 22 = .ok (.iconst 0, 1) := by decide +kernel
theorem dX5_member_23 : decode cX5_member 23 = .ok (.bipush 11, 2) := by decide +kernel
theorem dX5_member_25 : decode cX5_member 25 = .ok (.invokestatic 100, 3) := by decide +kernel
theorem dX5_member_28 : decode cX5_member 28 = .ok (.ifCond .ne 13, 3) := by decide +kernel
theorem dX5_member_31 : decode cX5_member 31 = .ok (.new 85, 3) := by decide +kernel
theorem dX5_member_34 : decode cX5_member 34 = .ok (.dup, 1) := by decide +kernel
theorem dX5_member_35 : decode cX5_member 35 = .ok (.ldc 204, 2) := by decide +kernel
theorem dX5_member_37 : decode cX5_member 37 = .ok (.invokespecial 89, 3) := by decide +kernel
theorem dX5_member_40 : decode cX5_member 40 = .ok (.athrow, 1) := by decide +kernel
theorem dX5_member_41 : decode cX5_member 41 = .ok (.aload_n 0, 1) := by decide +kernel
theorem dX5_member_42 : decode cX5_member 42 = .ok (.getfield 10, 3) := by decide +kernel
theorem dX5_member_45 : decode cX5_member 45 = .ok (.iload_n 1, 1) := by decide +kernel
theorem dX5_member_46 : decode cX5_member 46 = .ok (.iload_n 2, 1) := by decide +kernel
theorem dX5_member_47 : decode cX5_member 47 = .ok (.invokevirtual 206, 3) := by decide +kernel
theorem dX5_member_50 : decode cX5_member 50 = .ok (.ireturn, 1) := by decide +kernel
theorem dX5_skill_0 : decode cX5_skill 0 = .ok (.aload_n 0, 1) := by decide +kernel
theorem dX5_skill_1 : decode cX5_skill 1 = .ok (.getfield 10, 3) := by decide +kernel
theorem dX5_skill_4 : decode cX5_skill 4 = .ok (.iload_n 1, 1) := by decide +kernel
theorem dX5_skill_5 : decode cX5_skill 5 = .ok (.invokevirtual 49, 3) := by decide +kernel
theorem dX5_skill_8 : decode cX5_skill 8 = .ok (.ifCond .eq 10, 3) := by decide +kernel
theorem dX5_skill_11 : decode cX5_skill 11 = .ok (.iload_n 2, 1) := by decide +kernel
theorem dX5_skill_12 : decode cX5_skill 12 = .ok (.invokestatic 77, 3) := by decide +kernel
theorem dX5_skill_15 : decode cX5_skill 15 = .ok (.ifCond .ne 13, 3) := by decide +kernel
theorem dX5_skill_18 : decode cX5_skill 18 = .ok (.new 53, 3) := by decide +kernel
theorem dX5_skill_21 : decode cX5_skill 21 = .ok (.dup, 1) := by decide +kernel
theorem dX5_skill_22 : decode cX5_skill 22 = .ok (.ldc 80, 2) := by decide +kernel
theorem dX5_skill_24 : decode cX5_skill 24 = .ok (.invokespecial 57, 3) := by decide +kernel
theorem dX5_skill_27 : decode cX5_skill 27 = .ok (.athrow, 1) := by decide +kernel
theorem dX5_skill_28 : decode cX5_skill 28 = .ok (.iload_n 3, 1) := by decide +kernel
theorem dX5_skill_29 : decode cX5_skill 29 = .ok (.iconst 0, 1) := by decide +kernel
theorem dX5_skill_30 : decode cX5_skill 30 = .ok (.iconst 1, 1) := by decide +kernel
theorem dX5_skill_31 : decode cX5_skill 31 = .ok (.invokestatic 100, 3) := by decide +kernel
theorem dX5_skill_34 : decode cX5_skill 34 = .ok (.ifCond .ne 13, 3) := by decide +kernel
theorem dX5_skill_37 : decode cX5_skill 37 = .ok (.new 85, 3) := by decide +kernel
theorem dX5_skill_40 : decode cX5_skill 40 = .ok (.dup, 1) := by decide +kernel
theorem dX5_skill_41 : decode cX5_skill 41 = .ok (.ldc 210, 2) := by decide +kernel
theorem dX5_skill_43 : decode cX5_skill 43 = .ok (.invokespecial 89, 3) := by decide +kernel
theorem dX5_skill_46 : decode cX5_skill 46 = .ok (.athrow, 1) := by decide +kernel
theorem dX5_skill_47 : decode cX5_skill 47 = .ok (.iload_n 3, 1) := by decide +kernel
theorem dX5_skill_48 : decode cX5_skill 48 = .ok (.ifCond .ne 20, 3) := by decide +kernel
theorem dX5_skill_51 : decode cX5_skill 51 = .ok (.aload_n 0, 1) := by decide +kernel
theorem dX5_skill_52 : decode cX5_skill 52 = .ok (.getfield 10, 3) := by decide +kernel
theorem dX5_skill_55 : decode cX5_skill 55 = .ok (.getfield 58, 3) := by decide +kernel
theorem dX5_skill_58 : decode cX5_skill 58 = .ok (.iload_n 1, 1) := by decide +kernel
theorem dX5_skill_59 : decode cX5_skill 59 = .ok (.aaload, 1) := by decide +kernel
theorem dX5_skill_60 : decode cX5_skill 60 = .ok (.getfield 212, 3) := by decide +kernel
theorem dX5_skill_63 : decode cX5_skill 63 = .ok (.iload_n 2, 1) := by decide +kernel
theorem dX5_skill_64 : decode cX5_skill 64 = .ok (.iaload, 1) := by decide +kernel
theorem dX5_skill_65 : decode cX5_skill 65 = .ok (.goto 16, 3) := by decide +kernel
theorem dX5_skill_68 : decode cX5_skill 68 = .ok (.aload_n 0, 1) := by decide +kernel
theorem dX5_skill_69 : decode cX5_skill 69 = .ok (.getfield 10, 3) := by decide +kernel
theorem dX5_skill_72 : decode cX5_skill 72 = .ok (.getfield 58, 3) := by decide +kernel
theorem dX5_skill_75 : decode cX5_skill 75 = .ok (.iload_n 1, 1) := by decide +kernel
theorem dX5_skill_76 : decode cX5_skill 76 = .ok (.aaload, 1) := by decide +kernel
theorem dX5_skill_77 : decode cX5_skill 77 = .ok (.iload_n 2, 1) := by decide +kernel
theorem dX5_skill_78 : decode cX5_skill 78 = .ok (.invokevirtual 215, 3) := by decide +kernel
theorem dX5_skill_81 : decode cX5_skill 81 = .ok (.ireturn, 1) := by decide +kernel
theorem dX5_count_0 : decode cX5_count 0 = .ok (.iload_n 1, 1) := by decide +kernel
theorem dX5_count_1 : decode cX5_count 1 = .ok (.iconst 0, 1) := by decide +kernel
theorem dX5_count_2 : decode cX5_count 2 = .ok (.bipush 13, 2) := by decide +kernel
theorem dX5_count_4 : decode cX5_count 4 = .ok (.invokestatic 100, 3) := by decide +kernel
theorem dX5_count_7 : decode cX5_count 7 = .ok (.ifCond .ne 13, 3) := by decide +kernel
theorem dX5_count_10 : decode cX5_count 10 = .ok (.new 85, 3) := by decide +kernel
theorem dX5_count_13 : decode cX5_count 13 = .ok (.dup, 1) := by decide +kernel
theorem dX5_count_14 : decode cX5_count 14 = .ok (.ldc 218, 2) := by decide +kernel
theorem dX5_count_16 : decode cX5_count 16 = .ok (.invokespecial 89, 3) := by decide +kernel
theorem dX5_count_19 : decode cX5_count 19 = .ok (.athrow, 1) := by decide +kernel
theorem dX5_count_20 : decode cX5_count 20 = .ok (.aload_n 0, 1) := by decide +kernel
theorem dX5_count_21 : decode cX5_count 21 = .ok (.iload_n 1, 1) := by decide +kernel
theorem dX5_count_22 : decode cX5_count 22 = .ok (.invokevirtual 220, 3) := by decide +kernel
theorem dX5_count_25 : decode cX5_count 25 = .ok (.ireturn, 1) := by decide +kernel
theorem dX5_worth_0 : decode cX5_worth 0 = .ok (.aload_n 0, 1) := by decide +kernel
theorem dX5_worth_1 : decode cX5_worth 1 = .ok (.getfield 10, 3) := by decide +kernel
theorem dX5_worth_4 : decode cX5_worth 4 = .ok (.iload_n 1, 1) := by decide +kernel
theorem dX5_worth_5 : decode cX5_worth 5 = .ok (.invokevirtual 49, 3) := by decide +kernel
theorem dX5_worth_8 : decode cX5_worth 8 = .ok (.ifCond .eq 10, 3) := by decide +kernel
theorem dX5_worth_11 : decode cX5_worth 11 = .ok (.iload_n 2, 1) := by decide +kernel
theorem dX5_worth_12 : decode cX5_worth 12 = .ok (.invokestatic 77, 3) := by decide +kernel
theorem dX5_worth_15 : decode cX5_worth 15 = .ok (.ifCond .ne 13, 3) := by decide +kernel
theorem dX5_worth_18 : decode cX5_worth 18 = .ok (.new 53, 3) := by decide +kernel
theorem dX5_worth_21 : decode cX5_worth 21 = .ok (.dup, 1) := by decide +kernel
theorem dX5_worth_22 : decode cX5_worth 22 = .ok (.ldc 80, 2) := by decide +kernel
theorem dX5_worth_24 : decode cX5_worth 24 = .ok (.invokespecial 57, 3) := by decide +kernel
theorem dX5_worth_27 : decode cX5_worth 27 = .ok (.athrow, 1) := by decide +kernel
theorem dX5_worth_28 : decode cX5_worth 28 = .ok (.iload_n 3, 1) := by decide +kernel
theorem dX5_worth_29 : decode cX5_worth 29 = .ok (.invokestatic 82, 3) := by decide +kernel
theorem dX5_worth_32 : decode cX5_worth 32 = .ok (.ifCond .ne 13, 3) := by decide +kernel
theorem dX5_worth_35 : decode cX5_worth 35 = .ok (.new 85, 3) := by decide +kernel
theorem dX5_worth_38 : decode cX5_worth 38 = .ok (.dup, 1) := by decide +kernel
theorem dX5_worth_39 : decode cX5_worth 39 = .ok (.ldc 104, 2) := by decide +kernel
theorem dX5_worth_41 : decode cX5_worth 41 = .ok (.invokespecial 89, 3) := by decide +kernel
theorem dX5_worth_44 : decode cX5_worth 44 = .ok (.athrow, 1) := by decide +kernel
theorem dX5_worth_45 : decode cX5_worth 45 = .ok (.aload_n 0, 1) := by decide +kernel
theorem dX5_worth_46 : decode cX5_worth 46 = .ok (.getfield 10, 3) := by decide +kernel
theorem dX5_worth_49 : decode cX5_worth 49 = .ok (.getfield 58, 3) := by decide +kernel
theorem dX5_worth_52 : decode cX5_worth 52 = .ok (.iload_n 1, 1) := by decide +kernel
theorem dX5_worth_53 : decode cX5_worth 53 = .ok (.aaload, 1) := by decide +kernel
theorem dX5_worth_54 : decode cX5_worth 54 = .ok (.iload_n 2, 1) := by decide +kernel
theorem dX5_worth_55 : decode cX5_worth 55 = .ok (.iload_n 3, 1) := by decide +kernel
theorem dX5_worth_56 : decode cX5_worth 56 = .ok (.invokevirtual 223, 3) := by decide +kernel
theorem dX5_worth_59 : decode cX5_worth 59 = .ok (.ireturn, 1) := by decide +kernel
theorem dX5_cheapest_0 : decode cX5_cheapest 0 = .ok (.aload_n 0, 1) := by decide +kernel
theorem dX5_cheapest_1 : decode cX5_cheapest 1 = .ok (.getfield 10, 3) := by decide +kernel
theorem dX5_cheapest_4 : decode cX5_cheapest 4 = .ok (.iload_n 1, 1) := by decide +kernel
theorem dX5_cheapest_5 : decode cX5_cheapest 5 = .ok (.invokevirtual 49, 3) := by decide +kernel
theorem dX5_cheapest_8 : decode cX5_cheapest 8 = .ok (.ifCond .eq 10, 3) := by decide +kernel
theorem dX5_cheapest_11 : decode cX5_cheapest 11 = .ok (.iload_n 2, 1) := by decide +kernel
theorem dX5_cheapest_12 : decode cX5_cheapest 12 = .ok (.invokestatic 77, 3) := by decide +kernel
theorem dX5_cheapest_15 : decode cX5_cheapest 15 = .ok (.ifCond .ne 13, 3) := by decide +kernel
theorem dX5_cheapest_18 : decode cX5_cheapest 18 = .ok (.new 53, 3) := by decide +kernel
theorem dX5_cheapest_21 : decode cX5_cheapest 21 = .ok (.dup, 1) := by decide +kernel
theorem dX5_cheapest_22 : decode cX5_cheapest 22 = .ok (.ldc 80, 2) := by decide +kernel
theorem dX5_cheapest_24 : decode cX5_cheapest 24 = .ok (.invokespecial 57, 3) := by decide +kernel
theorem dX5_cheapest_27 : decode cX5_cheapest 27 = .ok (.athrow, 1) := by decide +kernel
theorem dX5_cheapest_28 : decode cX5_cheapest 28 = .ok (.iload_n 3, 1) := by decide +kernel
theorem dX5_cheapest_29 : decode cX5_cheapest 29 = .ok (.invokestatic 82, 3) := by decide +kernel
theorem dX5_cheapest_32 : decode cX5_cheapest 32 = .ok (.ifCond .ne 13, 3) := by decide +kernel
theorem dX5_cheapest_35 : decode cX5_cheapest 35 = .ok (.new 85, 3) := by decide +kernel
theorem dX5_cheapest_38 : decode cX5_cheapest 38 = .ok (.dup, 1) := by decide +kernel
theorem dX5_cheapest_39 : decode cX5_cheapest 39 = .ok (.ldc 104, 2) := by decide +kernel
theorem dX5_cheapest_41 : decode cX5_cheapest 41 = .ok (.invokespecial 89, 3) := by decide +kernel
theorem dX5_cheapest_44 : decode cX5_cheapest 44 = .ok (.athrow, 1) := by decide +kernel
theorem dX5_cheapest_45 : decode cX5_cheapest 45 = .ok (.aload_n 0, 1) := by decide +kernel
theorem dX5_cheapest_46 : decode cX5_cheapest 46 = .ok (.getfield 10, 3) := by decide +kernel
theorem dX5_cheapest_49 : decode cX5_cheapest 49 = .ok (.iload_n 1, 1) := by decide +kernel
theorem dX5_cheapest_50 : decode cX5_cheapest 50 = .ok (.iload_n 2, 1) := by decide +kernel
theorem dX5_cheapest_51 : decode cX5_cheapest 51 = .ok (.iload_n 3, 1) := by decide +kernel
theorem dX5_cheapest_52 : decode cX5_cheapest 52 = .ok (.invokevirtual 230, 3) := by decide +kernel
theorem dX5_cheapest_55 : decode cX5_cheapest 55 = .ok (.ireturn, 1) := by decide +kernel
theorem dX5_votesNeeded_0 : decode cX5_votesNeeded 0 = .ok (.aload_n 0, 1) := by decide +kernel
theorem dX5_votesNeeded_1 : decode cX5_votesNeeded 1 = .ok (.getfield 10, 3) := by decide +kernel
theorem dX5_votesNeeded_4 : decode cX5_votesNeeded 4 = .ok (.invokevirtual 236, 3) := by decide +kernel
theorem dX5_votesNeeded_7 : decode cX5_votesNeeded 7 = .ok (.ireturn, 1) := by decide +kernel
theorem dX5_number_0 : decode cX5_number 0 = .ok (.iload_n 1, 1) := by decide +kernel
theorem dX5_number_1 : decode cX5_number 1 = .ok (.tableswitch 173 0 12 #[67, 75, 83, 91, 99, 107, 115, 123, 131, 139, 147, 155, 164], 67) := by decide +kernel
theorem dX5_number_68 : decode cX5_number 68 = .ok (.aload_n 0, 1) := by decide +kernel
theorem dX5_number_69 : decode cX5_number 69 = .ok (.getfield 10, 3) := by decide +kernel
theorem dX5_number_72 : decode cX5_number 72 = .ok (.getfield 30, 3) := by decide +kernel
theorem dX5_number_75 : decode cX5_number 75 = .ok (.ireturn, 1) := by decide +kernel
theorem dX5_number_76 : decode cX5_number 76 = .ok (.aload_n 0, 1) := by decide +kernel
theorem dX5_number_77 : decode cX5_number 77 = .ok (.getfield 10, 3) := by decide +kernel
theorem dX5_number_80 : decode cX5_number 80 = .ok (.invokevirtual 270, 3) := by decide +kernel
theorem dX5_number_83 : decode cX5_number 83 = .ok (.ireturn, 1) := by decide +kernel
theorem dX5_number_84 : decode cX5_number 84 = .ok (.aload_n 0, 1) := by decide +kernel
theorem dX5_number_85 : decode cX5_number 85 = .ok (.getfield 10, 3) := by decide +kernel
theorem dX5_number_88 : decode cX5_number 88 = .ok (.getfield 273, 3) := by decide +kernel
theorem dX5_number_91 : decode cX5_number 91 = .ok (.ireturn, 1) := by decide +kernel
theorem dX5_number_92 : decode cX5_number 92 = .ok (.aload_n 0, 1) := by decide +kernel
theorem dX5_number_93 : decode cX5_number 93 = .ok (.getfield 10, 3) := by decide +kernel
theorem dX5_number_96 : decode cX5_number 96 = .ok (.getfield 276, 3) := by decide +kernel
theorem dX5_number_99 : decode cX5_number 99 = .ok (.ireturn, 1) := by decide +kernel
theorem dX5_number_100 : decode cX5_number 100 = .ok (.aload_n 0, 1) := by decide +kernel
theorem dX5_number_101 : decode cX5_number 101 = .ok (.getfield 10, 3) := by decide +kernel
theorem dX5_number_104 : decode cX5_number 104 = .ok (.getfield 114, 3) := by decide +kernel
theorem dX5_number_107 : decode cX5_number 107 = .ok (.ireturn, 1) := by decide +kernel
theorem dX5_number_108 : decode cX5_number 108 = .ok (.aload_n 0, 1) := by decide +kernel
theorem dX5_number_109 : decode cX5_number 109 = .ok (.getfield 10, 3) := by decide +kernel
theorem dX5_number_112 : decode cX5_number 112 = .ok (.getfield 279, 3) := by decide +kernel
theorem dX5_number_115 : decode cX5_number 115 = .ok (.ireturn, 1) := by decide +kernel
theorem dX5_number_116 : decode cX5_number 116 = .ok (.aload_n 0, 1) := by decide +kernel
theorem dX5_number_117 : decode cX5_number 117 = .ok (.getfield 10, 3) := by decide +kernel
theorem dX5_number_120 : decode cX5_number 120 = .ok (.invokevirtual 282, 3) := by decide +kernel
theorem dX5_number_123 : decode cX5_number 123 = .ok (.ireturn, 1) := by decide +kernel
theorem dX5_number_124 : decode cX5_number 124 = .ok (.aload_n 0, 1) := by decide +kernel
theorem dX5_number_125 : decode cX5_number 125 = .ok (.getfield 10, 3) := by decide +kernel
theorem dX5_number_128 : decode cX5_number 128 = .ok (.invokevirtual 285, 3) := by decide +kernel
theorem dX5_number_131 : decode cX5_number 131 = .ok (.ireturn, 1) := by decide +kernel
theorem dX5_number_132 : decode cX5_number 132 = .ok (.aload_n 0, 1) := by decide +kernel
theorem dX5_number_133 : decode cX5_number 133 = .ok (.getfield 10, 3) := by decide +kernel
theorem dX5_number_136 : decode cX5_number 136 = .ok (.invokevirtual 288, 3) := by decide +kernel
theorem dX5_number_139 : decode cX5_number 139 = .ok (.ireturn, 1) := by decide +kernel
theorem dX5_number_140 : decode cX5_number 140 = .ok (.aload_n 0, 1) := by decide +kernel
theorem dX5_number_141 : decode cX5_number 141 = .ok (.getfield 10, 3) := by decide +kernel
theorem dX5_number_144 : decode cX5_number 144 = .ok (.getfield 291, 3) := by decide +kernel
theorem dX5_number_147 : decode cX5_number 147 = .ok (.ireturn, 1) := by decide +kernel
