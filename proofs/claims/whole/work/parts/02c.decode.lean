theorem dX6_deals_20 : decode cX6_deals 20 = .ok (.iconst 2, 1) := by decide +kernel
theorem dX6_deals_21 : decode cX6_deals 21 = .ok (.idiv, 1) := by decide +kernel
theorem dX6_deals_22 : decode cX6_deals 22 = .ok (.iload 6, 2) := by decide +kernel
theorem dX6_deals_24 : decode cX6_deals 24 = .ok (.if_icmp .ge 10, 3) := by decide +kernel
theorem dX6_deals_27 : decode cX6_deals 27 = .ok (.iload 5, 2) := by decide +kernel
theorem dX6_deals_29 : decode cX6_deals 29 = .ok (.iconst 2, 1) := by decide +kernel
theorem dX6_deals_30 : decode cX6_deals 30 = .ok (.idiv, 1) := by decide +kernel
theorem dX6_deals_31 : decode cX6_deals 31 = .ok (.goto 5, 3) := by decide +kernel
theorem dX6_deals_34 : decode cX6_deals 34 = .ok (.iload 6, 2) := by decide +kernel
theorem dX6_deals_36 : decode cX6_deals 36 = .ok (.istore 7, 2) := by decide +kernel
theorem dX6_deals_38 : decode cX6_deals 38 = .ok (.aload_n 0, 1) := by decide +kernel
theorem dX6_deals_39 : decode cX6_deals 39 = .ok (.iload_n 2, 1) := by decide +kernel
theorem dX6_deals_40 : decode cX6_deals 40 = .ok (.iconst 1, 1) := by decide +kernel
theorem dX6_deals_41 : decode cX6_deals 41 = .ok (.iload 5, 2) := by decide +kernel
theorem dX6_deals_43 : decode cX6_deals 43 = .ok (.ineg, 1) := by decide +kernel
theorem dX6_deals_44 : decode cX6_deals 44 = .ok (.invokevirtual 51, 3) := by decide +kernel
theorem dX6_deals_47 : decode cX6_deals 47 = .ok (.aload_n 0, 1) := by decide +kernel
theorem dX6_deals_48 : decode cX6_deals 48 = .ok (.iload_n 2, 1) := by decide +kernel
theorem dX6_deals_49 : decode cX6_deals 49 = .ok (.bipush 8, 2) := by decide +kernel
theorem dX6_deals_51 : decode cX6_deals 51 = .ok (.iload 5, 2) := by decide +kernel
theorem dX6_deals_53 : decode cX6_deals 53 = .ok (.invokevirtual 51, 3) := by decide +kernel
theorem dX6_deals_56 : decode cX6_deals 56 = .ok (.aload_n 0, 1) := by decide +kernel
theorem dX6_deals_57 : decode cX6_deals 57 = .ok (.iload_n 2, 1) := by decide +kernel
theorem dX6_deals_58 : decode cX6_deals 58 = .ok (.bipush 6, 2) := by decide +kernel
theorem dX6_deals_60 : decode cX6_deals 60 = .ok (.iload 4, 2) := by decide +kernel
theorem dX6_deals_62 : decode cX6_deals 62 = .ok (.invokevirtual 51, 3) := by decide +kernel
theorem dX6_deals_65 : decode cX6_deals 65 = .ok (.aload_n 0, 1) := by decide +kernel
theorem dX6_deals_66 : decode cX6_deals 66 = .ok (.iload_n 2, 1) := by decide +kernel
theorem dX6_deals_67 : decode cX6_deals 67 = .ok (.iconst 4, 1) := by decide +kernel
theorem dX6_deals_68 : decode cX6_deals 68 = .ok (.iconst 1, 1) := by decide +kernel
theorem dX6_deals_69 : decode cX6_deals 69 = .ok (.invokevirtual 61, 3) := by decide +kernel
theorem dX6_deals_72 : decode cX6_deals 72 = .ok (.aload_n 0, 1) := by decide +kernel
theorem dX6_deals_73 : decode cX6_deals 73 = .ok (.iload_n 1, 1) := by decide +kernel
theorem dX6_deals_74 : decode cX6_deals 74 = .ok (.iconst 1, 1) := by decide +kernel
theorem dX6_deals_75 : decode cX6_deals 75 = .ok (.iload 5, 2) := by decide +kernel
theorem dX6_deals_77 : decode cX6_deals 77 = .ok (.iload 7, 2) := by decide +kernel
theorem dX6_deals_79 : decode cX6_deals 79 = .ok (.isub, 1) := by decide +kernel
theorem dX6_deals_80 : decode cX6_deals 80 = .ok (.invokevirtual 51, 3) := by decide +kernel
theorem dX6_deals_83 : decode cX6_deals 83 = .ok (.aload_n 0, 1) := by decide +kernel
theorem dX6_deals_84 : decode cX6_deals 84 = .ok (.iload_n 1, 1) := by decide +kernel
theorem dX6_deals_85 : decode cX6_deals 85 = .ok (.iconst 2, 1) := by decide +kernel
theorem dX6_deals_86 : decode cX6_deals 86 = .ok (.iload 7, 2) := by decide +kernel
theorem dX6_deals_88 : decode cX6_deals 88 = .ok (.ineg, 1) := by decide +kernel
theorem dX6_deals_89 : decode cX6_deals 89 = .ok (.invokevirtual 51, 3) := by decide +kernel
theorem dX6_deals_92 : decode cX6_deals 92 = .ok (.aload_n 0, 1) := by decide +kernel
theorem dX6_deals_93 : decode cX6_deals 93 = .ok (.getfield 7, 3) := by decide +kernel
theorem dX6_deals_96 : decode cX6_deals 96 = .ok (.bipush 6, 2) := by decide +kernel
theorem dX6_deals_98 : decode cX6_deals 98 = .ok (.dup2, 1) := by decide +kernel
theorem dX6_deals_99 : decode cX6_deals 99 = .ok (.iaload, 1) := by decide +kernel
theorem dX6_deals_100 : decode cX6_deals 100 = .ok (.iload 7, 2) := by decide +kernel
theorem dX6_deals_102 : decode cX6_deals 102 = .ok (.iadd, 1) := by decide +kernel
theorem dX6_deals_103 : decode cX6_deals 103 = .ok (.iastore, 1) := by decide +kernel
theorem dX6_deals_104 : decode cX6_deals 104 = .ok (.aload_n 0, 1) := by decide +kernel
theorem dX6_deals_105 : decode cX6_deals 105 = .ok (.iload_n 1, 1) := by decide +kernel
theorem dX6_deals_106 : decode cX6_deals 106 = .ok (.bipush 7, 2) := by decide +kernel
theorem dX6_deals_108 : decode cX6_deals 108 = .ok (.iload 5, 2) := by decide +kernel
theorem dX6_deals_110 : decode cX6_deals 110 = .ok (.invokevirtual 51, 3) := by decide +kernel
theorem dX6_deals_113 : decode cX6_deals 113 = .ok (.aload_n 0, 1) := by decide +kernel
theorem dX6_deals_114 : decode cX6_deals 114 = .ok (.iload_n 1, 1) := by decide +kernel
theorem dX6_deals_115 : decode cX6_deals 115 = .ok (.iconst 5, 1) := by decide +kernel
theorem dX6_deals_116 : decode cX6_deals 116 = .ok (.iload 4, 2) := by decide +kernel
theorem dX6_deals_118 : decode cX6_deals 118 = .ok (.invokevirtual 51, 3) := by decide +kernel
theorem dX6_deals_121 : decode cX6_deals 121 = .ok (.aload_n 0, 1) := by decide +kernel
theorem dX6_deals_122 : decode cX6_deals 122 = .ok (.iload_n 1, 1) := by decide +kernel
theorem dX6_deals_123 : decode cX6_deals 123 = .ok (.iconst 4, 1) := by decide +kernel
theorem dX6_deals_124 : decode cX6_deals 124 = .ok (.iconst 1, 1) := by decide +kernel
theorem dX6_deals_125 : decode cX6_deals 125 = .ok (.invokevirtual 61, 3) := by decide +kernel
theorem dX6_deals_128 : decode cX6_deals 128 = .ok (.aload_n 0, 1) := by decide +kernel
theorem dX6_deals_129 : decode cX6_deals 129 = .ok (.iload_n 1, 1) := by decide +kernel
theorem dX6_deals_130 : decode cX6_deals 130 = .ok (.bipush 11, 2) := by decide +kernel
theorem dX6_deals_132 : decode cX6_deals 132 = .ok (.iload_n 3, 1) := by decide +kernel
theorem dX6_deals_133 : decode cX6_deals 133 = .ok (.iadd, 1) := by decide +kernel
theorem dX6_deals_134 : decode cX6_deals 134 = .ok (.invokevirtual 36, 3) := by decide +kernel
theorem dX6_deals_137 : decode cX6_deals 137 = .ok (.iload 4, 2) := by decide +kernel
theorem dX6_deals_139 : decode cX6_deals 139 = .ok (.iadd, 1) := by decide +kernel
theorem dX6_deals_140 : decode cX6_deals 140 = .ok (.istore 8, 2) := by decide +kernel
theorem dX6_deals_142 : decode cX6_deals 142 = .ok (.aload_n 0, 1) := by decide +kernel
theorem dX6_deals_143 : decode cX6_deals 143 = .ok (.iload_n 1, 1) := by decide +kernel
theorem dX6_deals_144 : decode cX6_deals 144 = .ok (.bipush 11, 2) := by decide +kernel
theorem dX6_deals_146 : decode cX6_deals 146 = .ok (.iload_n 3, 1) := by decide +kernel
theorem dX6_deals_147 : decode cX6_deals 147 = .ok (.iadd, 1) := by decide +kernel
theorem dX6_deals_148 : decode cX6_deals 148 = .ok (.iload 8, 2) := by decide +kernel
theorem dX6_deals_150 : decode cX6_deals 150 = .ok (.sipush 9999, 3) := by decide +kernel
theorem dX6_deals_153 : decode cX6_deals 153 = .ok (.if_icmp .le 9, 3) := by decide +kernel
theorem dX6_deals_156 : decode cX6_deals 156 = .ok (.sipush 9999, 3) := by decide +kernel
theorem dX6_deals_159 : decode cX6_deals 159 = .ok (.goto 5, 3) := by decide +kernel
theorem dX6_deals_162 : decode cX6_deals 162 = .ok (.iload 8, 2) := by decide +kernel
theorem dX6_deals_164 : decode cX6_deals 164 = .ok (.invokevirtual 61, 3) := by decide +kernel
theorem dX6_deals_167 : decode cX6_deals 167 = .ok (.aload_n 0, 1) := by decide +kernel
theorem dX6_deals_168 : decode cX6_deals 168 = .ok (.getfield 7, 3) := by decide +kernel
theorem dX6_deals_171 : decode cX6_deals 171 = .ok (.bipush 9, 2) := by decide +kernel
theorem dX6_deals_173 : decode cX6_deals 173 = .ok (.dup2, 1) := by decide +kernel
theorem dX6_deals_174 : decode cX6_deals 174 = .ok (.iaload, 1) := by decide +kernel
theorem dX6_deals_175 : decode cX6_deals 175 = .ok (.iconst 1, 1) := by decide +kernel
theorem dX6_deals_176 : decode cX6_deals 176 = .ok (.iadd, 1) := by decide +kernel
theorem dX6_deals_177 : decode cX6_deals 177 = .ok (.iastore, 1) := by decide +kernel
theorem dX6_deals_178 : decode cX6_deals 178 = .ok (.iload 5, 2) := by decide +kernel
theorem dX6_deals_180 : decode cX6_deals 180 = .ok (.ireturn, 1) := by decide +kernel
theorem dX6_give_0 : decode cX6_give 0 = .ok (.aload_n 0, 1) := by decide +kernel
theorem dX6_give_1 : decode cX6_give 1 = .ok (.aload_n 0, 1) := by decide +kernel
theorem dX6_give_2 : decode cX6_give 2 = .ok (.iload_n 1, 1) := by decide +kernel
theorem dX6_give_3 : decode cX6_give 3 = .ok (.invokevirtual 64, 3) := by decide +kernel
theorem dX6_give_6 : decode cX6_give 6 = .ok (.ifCond .eq 18, 3) := by decide +kernel
theorem dX6_give_9 : decode cX6_give 9 = .ok (.aload_n 0, 1) := by decide +kernel
theorem dX6_give_10 : decode cX6_give 10 = .ok (.iload_n 2, 1) := by decide +kernel
theorem dX6_give_11 : decode cX6_give 11 = .ok (.invokevirtual 64, 3) := by decide +kernel
theorem dX6_give_14 : decode cX6_give 14 = .ok (.ifCond .eq 10, 3) := by decide +kernel
theorem dX6_give_17 : decode cX6_give 17 = .ok (.iload_n 3, 1) := by decide +kernel
theorem dX6_give_18 : decode cX6_give 18 = .ok (.invokestatic 85, 3) := by decide +kernel
theorem dX6_give_21 : decode cX6_give 21 = .ok (.ifCond .ne 7, 3) := by decide +kernel
theorem dX6_give_24 : decode cX6_give 24 = .ok (.iconst 1, 1) := by decide +kernel
theorem dX6_give_25 : decode cX6_give 25 = .ok (.goto 37, 3) := by decide +kernel
theorem dX6_give_28 : decode cX6_give 28 = .ok (.iload_n 1, 1) := by decide +kernel
theorem dX6_give_29 : decode cX6_give 29 = .ok (.iload_n 2, 1) := by decide +kernel
theorem dX6_give_30 : decode cX6_give 30 = .ok (.if_icmp .eq 11, 3) := by decide +kernel
theorem dX6_give_33 : decode cX6_give 33 = .ok (.iload 4, 2) := by decide +kernel
theorem dX6_give_35 : decode cX6_give 35 = .ok (.invokestatic 88, 3) := by decide +kernel
theorem dX6_give_38 : decode cX6_give 38 = .ok (.ifCond .ne 7, 3) := by decide +kernel
theorem dX6_give_41 : decode cX6_give 41 = .ok (.iconst 2, 1) := by decide +kernel
theorem dX6_give_42 : decode cX6_give 42 = .ok (.goto 20, 3) := by decide +kernel
theorem dX6_give_45 : decode cX6_give 45 = .ok (.aload_n 0, 1) := by decide +kernel
theorem dX6_give_46 : decode cX6_give 46 = .ok (.iload_n 1, 1) := by decide +kernel
theorem dX6_give_47 : decode cX6_give 47 = .ok (.iload_n 2, 1) := by decide +kernel
theorem dX6_give_48 : decode cX6_give 48 = .ok (.iload_n 3, 1) := by decide +kernel
theorem dX6_give_49 : decode cX6_give 49 = .ok (.iload 4, 2) := by decide +kernel
theorem dX6_give_51 : decode cX6_give 51 = .ok (.invokevirtual 91, 3) := by decide +kernel
theorem dX6_give_54 : decode cX6_give 54 = .ok (.ifCond .eq 7, 3) := by decide +kernel
theorem dX6_give_57 : decode cX6_give 57 = .ok (.iconst 0, 1) := by decide +kernel
theorem dX6_give_58 : decode cX6_give 58 = .ok (.goto 4, 3) := by decide +kernel
theorem dX6_give_61 : decode cX6_give 61 = .ok (.iconst 3, 1) := by decide +kernel
theorem dX6_give_62 : decode cX6_give 62 = .ok (.putfield 25, 3) := by decide +kernel
theorem dX6_give_65 : decode cX6_give 65 = .ok (.aload_n 0, 1) := by decide +kernel
theorem dX6_give_66 : decode cX6_give 66 = .ok (.getfield 25, 3) := by decide +kernel
theorem dX6_give_69 : decode cX6_give 69 = .ok (.ifCond .le 5, 3) := by decide +kernel
theorem dX6_give_72 : decode cX6_give 72 = .ok (.iconst 0, 1) := by decide +kernel
theorem dX6_give_73 : decode cX6_give 73 = .ok (.ireturn, 1) := by decide +kernel
theorem dX6_give_74 : decode cX6_give 74 = .ok (.aload_n 0, 1) := by decide +kernel
theorem dX6_give_75 : decode cX6_give 75 = .ok (.invokevirtual 58, 3) := by decide +kernel
theorem dX6_give_78 : decode cX6_give 78 = .ok (.aload_n 0, 1) := by decide +kernel
theorem dX6_give_79 : decode cX6_give 79 = .ok (.iload_n 1, 1) := by decide +kernel
theorem dX6_give_80 : decode cX6_give 80 = .ok (.iload_n 2, 1) := by decide +kernel
theorem dX6_give_81 : decode cX6_give 81 = .ok (.iload_n 3, 1) := by decide +kernel
theorem dX6_give_82 : decode cX6_give 82 = .ok (.iload 4, 2) := by decide +kernel
theorem dX6_give_84 : decode cX6_give 84 = .ok (.invokevirtual 95, 3) := by decide +kernel
theorem dX6_give_87 : decode cX6_give 87 = .ok (.ireturn, 1) := by decide +kernel
theorem dX6_donate_0 : decode cX6_donate 0 = .ok (.aload_n 0, 1) := by decide +kernel
theorem dX6_donate_1 : decode cX6_donate 1 = .ok (.aload_n 0, 1) := by decide +kernel
theorem dX6_donate_2 : decode cX6_donate 2 = .ok (.iload_n 1, 1) := by decide +kernel
theorem dX6_donate_3 : decode cX6_donate 3 = .ok (.invokevirtual 64, 3) := by decide +kernel
theorem dX6_donate_6 : decode cX6_donate 6 = .ok (.ifCond .ne 7, 3) := by decide +kernel
theorem dX6_donate_9 : decode cX6_donate 9 = .ok (.iconst 1, 1) := by decide +kernel
theorem dX6_donate_10 : decode cX6_donate 10 = .ok (.goto 41, 3) := by decide +kernel
theorem dX6_donate_13 : decode cX6_donate 13 = .ok (.iload_n 2, 1) := by decide +kernel
theorem dX6_donate_14 : decode cX6_donate 14 = .ok (.iconst 1, 1) := by decide +kernel
theorem dX6_donate_15 : decode cX6_donate 15 = .ok (.sipush 999, 3) := by decide +kernel
theorem dX6_donate_18 : decode cX6_donate 18 = .ok (.invokestatic 32, 3) := by decide +kernel
theorem dX6_donate_21 : decode cX6_donate 21 = .ok (.ifCond .ne 7, 3) := by decide +kernel
theorem dX6_donate_24 : decode cX6_donate 24 = .ok (.iconst 2, 1) := by decide +kernel
theorem dX6_donate_25 : decode cX6_donate 25 = .ok (.goto 26, 3) := by decide +kernel
theorem dX6_donate_28 : decode cX6_donate 28 = .ok (.aload_n 0, 1) := by decide +kernel
theorem dX6_donate_29 : decode cX6_donate 29 = .ok (.iload_n 1, 1) := by decide +kernel
theorem dX6_donate_30 : decode cX6_donate 30 = .ok (.invokevirtual 68, 3) := by decide +kernel
theorem dX6_donate_33 : decode cX6_donate 33 = .ok (.ifCond .eq 17, 3) := by decide +kernel
theorem dX6_donate_36 : decode cX6_donate 36 = .ok (.aload_n 0, 1) := by decide +kernel
theorem dX6_donate_37 : decode cX6_donate 37 = .ok (.iload_n 1, 1) := by decide +kernel
theorem dX6_donate_38 : decode cX6_donate 38 = .ok (.iconst 1, 1) := by decide +kernel
theorem dX6_donate_39 : decode cX6_donate 39 = .ok (.invokevirtual 36, 3) := by decide +kernel
theorem dX6_donate_42 : decode cX6_donate 42 = .ok (.iload_n 2, 1) := by decide +kernel
theorem dX6_donate_43 : decode cX6_donate 43 = .ok (.if_icmp .lt 7, 3) := by decide +kernel
theorem dX6_donate_46 : decode cX6_donate 46 = .ok (.iconst 0, 1) := by decide +kernel
theorem dX6_donate_47 : decode cX6_donate 47 = .ok (.goto 4, 3) := by decide +kernel
theorem dX6_donate_50 : decode cX6_donate 50 = .ok (.iconst 3, 1) := by decide +kernel
theorem dX6_donate_51 : decode cX6_donate 51 = .ok (.putfield 25, 3) := by decide +kernel
theorem dX6_donate_54 : decode cX6_donate 54 = .ok (.aload_n 0, 1) := by decide +kernel
theorem dX6_donate_55 : decode cX6_donate 55 = .ok (.getfield 25, 3) := by decide +kernel
theorem dX6_donate_58 : decode cX6_donate 58 = .ok (.ifCond .le 5, 3) := by decide +kernel
theorem dX6_donate_61 : decode cX6_donate 61 = .ok (.iconst 0, 1) := by decide +kernel
theorem dX6_donate_62 : decode cX6_donate 62 = .ok (.ireturn, 1) := by decide +kernel
theorem dX6_donate_63 : decode cX6_donate 63 = .ok (.aload_n 0, 1) := by decide +kernel
theorem dX6_donate_64 : decode cX6_donate 64 = .ok (.invokevirtual 58, 3) := by decide +kernel
theorem dX6_donate_67 : decode cX6_donate 67 = .ok (.aload_n 0, 1) := by decide +kernel
theorem dX6_donate_68 : decode cX6_donate 68 = .ok (.iload_n 1, 1) := by decide +kernel
theorem dX6_donate_69 : decode cX6_donate 69 = .ok (.iconst 1, 1) := by decide +kernel
theorem dX6_donate_70 : decode cX6_donate 70 = .ok (.iload_n 2, 1) := by decide +kernel
theorem dX6_donate_71 : decode cX6_donate 71 = .ok (.ineg, 1) := by decide +kernel
theorem dX6_donate_72 : decode cX6_donate 72 = .ok (.invokevirtual 51, 3) := by decide +kernel
theorem dX6_donate_75 : decode cX6_donate 75 = .ok (.aload_n 0, 1) := by decide +kernel
theorem dX6_donate_76 : decode cX6_donate 76 = .ok (.getfield 7, 3) := by decide +kernel
theorem dX6_donate_79 : decode cX6_donate 79 = .ok (.bipush 6, 2) := by decide +kernel
theorem dX6_donate_81 : decode cX6_donate 81 = .ok (.dup2, 1) := by decide +kernel
theorem dX6_donate_82 : decode cX6_donate 82 = .ok (.iaload, 1) := by decide +kernel
theorem dX6_donate_83 : decode cX6_donate 83 = .ok (.iload_n 2, 1) := by decide +kernel
theorem dX6_donate_84 : decode cX6_donate 84 = .ok (.iadd, 1) := by decide +kernel
theorem dX6_donate_85 : decode cX6_donate 85 = .ok (.iastore, 1) := by decide +kernel
theorem dX6_donate_86 : decode cX6_donate 86 = .ok (.aload_n 0, 1) := by decide +kernel
theorem dX6_donate_87 : decode cX6_donate 87 = .ok (.iload_n 1, 1) := by decide +kernel
theorem dX6_donate_88 : decode cX6_donate 88 = .ok (.iconst 1, 1) := by decide +kernel
theorem dX6_donate_89 : decode cX6_donate 89 = .ok (.invokevirtual 36, 3) := by decide +kernel
theorem dX6_donate_92 : decode cX6_donate 92 = .ok (.ireturn, 1) := by decide +kernel
theorem dX6_weekOf_0 : decode cX6_weekOf 0 = .ok (.aload_n 0, 1) := by decide +kernel
theorem dX6_weekOf_1 : decode cX6_weekOf 1 = .ok (.iload_n 1, 1) := by decide +kernel
theorem dX6_weekOf_2 : decode cX6_weekOf 2 = .ok (.iconst 3, 1) := by decide +kernel
theorem dX6_weekOf_3 : decode cX6_weekOf 3 = .ok (.aload_n 0, 1) := by decide +kernel
theorem dX6_weekOf_4 : decode cX6_weekOf 4 = .ok (.iload_n 1, 1) := by decide +kernel
theorem dX6_weekOf_5 : decode cX6_weekOf 5 = .ok (.iconst 4, 1) := by decide +kernel
theorem dX6_weekOf_6 : decode cX6_weekOf 6 = .ok (.invokevirtual 36, 3) := by decide +kernel
theorem dX6_weekOf_9 : decode cX6_weekOf 9 = .ok (.iconst 1, 1) := by decide +kernel
theorem dX6_weekOf_10 : decode cX6_weekOf 10 = .ok (.if_icmp .ne 7, 3) := by decide +kernel
theorem dX6_weekOf_13 : decode cX6_weekOf 13 = .ok (.iconst 0, 1) := by decide +kernel
theorem dX6_weekOf_14 : decode cX6_weekOf 14 = .ok (.goto 11, 3) := by decide +kernel
theorem dX6_weekOf_17 : decode cX6_weekOf 17 = .ok (.aload_n 0, 1) := by decide +kernel
theorem dX6_weekOf_18 : decode cX6_weekOf 18 = .ok (.iload_n 1, 1) := by decide +kernel
theorem dX6_weekOf_19 : decode cX6_weekOf 19 = .ok (.iconst 3, 1) := by decide +kernel
theorem dX6_weekOf_20 : decode cX6_weekOf 20 = .ok (.invokevirtual 36, 3) := by decide +kernel
theorem dX6_weekOf_23 : decode cX6_weekOf 23 = .ok (.iconst 1, 1) := by decide +kernel
theorem dX6_weekOf_24 : decode cX6_weekOf 24 = .ok (.iadd, 1) := by decide +kernel
theorem dX6_weekOf_25 : decode cX6_weekOf 25 = .ok (.invokevirtual 61, 3) := by decide +kernel
theorem dX6_weekOf_28 : decode cX6_weekOf 28 = .ok (.aload_n 0, 1) := by decide +kernel
theorem dX6_weekOf_29 : decode cX6_weekOf 29 = .ok (.iload_n 1, 1) := by decide +kernel
theorem dX6_weekOf_30 : decode cX6_weekOf 30 = .ok (.iconst 4, 1) := by decide +kernel
theorem dX6_weekOf_31 : decode cX6_weekOf 31 = .ok (.iconst 0, 1) := by decide +kernel
theorem dX6_weekOf_32 : decode cX6_weekOf 32 = .ok (.invokevirtual 61, 3) := by decide +kernel
theorem dX6_weekOf_35 : decode cX6_weekOf 35 = .ok (.aload_n 0, 1) := by decide +kernel
theorem dX6_weekOf_36 : decode cX6_weekOf 36 = .ok (.iload_n 1, 1) := by decide +kernel
theorem dX6_weekOf_37 : decode cX6_weekOf 37 = .ok (.iconst 3, 1) := by decide +kernel
theorem dX6_weekOf_38 : decode cX6_weekOf 38 = .ok (.invokevirtual 36, 3) := by decide +kernel
theorem dX6_weekOf_41 : decode cX6_weekOf 41 = .ok (.aload_n 0, 1) := by decide +kernel
theorem dX6_weekOf_42 : decode cX6_weekOf 42 = .ok (.getfield 7, 3) := by decide +kernel
theorem dX6_weekOf_45 : decode cX6_weekOf 45 = .ok (.iconst 2, 1) := by decide +kernel
theorem dX6_weekOf_46 : decode cX6_weekOf 46 = .ok (.iaload, 1) := by decide +kernel
theorem dX6_weekOf_47 : decode cX6_weekOf 47 = .ok (.if_icmp .gt 5, 3) := by decide +kernel
theorem dX6_weekOf_50 : decode cX6_weekOf 50 = .ok (.iconst 0, 1) := by decide +kernel
theorem dX6_weekOf_51 : decode cX6_weekOf 51 = .ok (.ireturn, 1) := by decide +kernel
theorem dX6_weekOf_52 : decode cX6_weekOf 52 = .ok (.iconst 0, 1) := by decide +kernel
theorem dX6_weekOf_53 : decode cX6_weekOf 53 = .ok (.istore_n 2, 1) := by decide +kernel
theorem dX6_weekOf_54 : decode cX6_weekOf 54 = .ok (.iload_n 2, 1) := by decide +kernel
theorem dX6_weekOf_55 : decode cX6_weekOf 55 = .ok (.iconst 5, 1) := by decide +kernel
theorem dX6_weekOf_56 : decode cX6_weekOf 56 = .ok (.if_icmp .ge 44, 3) := by decide +kernel
theorem dX6_weekOf_59 : decode cX6_weekOf 59 = .ok (.aload_n 0, 1) := by decide +kernel
theorem dX6_weekOf_60 : decode cX6_weekOf 60 = .ok (.iload_n 1, 1) := by decide +kernel
theorem dX6_weekOf_61 : decode cX6_weekOf 61 = .ok (.bipush 11, 2) := by decide +kernel
theorem dX6_weekOf_63 : decode cX6_weekOf 63 = .ok (.iload_n 2, 1) := by decide +kernel
theorem dX6_weekOf_64 : decode cX6_weekOf 64 = .ok (.iadd, 1) := by decide +kernel
theorem dX6_weekOf_65 : decode cX6_weekOf 65 = .ok (.invokevirtual 36, 3) := by decide +kernel
theorem dX6_weekOf_68 : decode cX6_weekOf 68 = .ok (.aload_n 0, 1) := by decide +kernel
theorem dX6_weekOf_69 : decode cX6_weekOf 69 = .ok (.getfield 7, 3) := by decide +kernel
theorem dX6_weekOf_72 : decode cX6_weekOf 72 = .ok (.iconst 4, 1) := by decide +kernel
theorem dX6_weekOf_73 : decode cX6_weekOf 73 = .ok (.iaload, 1) := by decide +kernel
theorem dX6_weekOf_74 : decode cX6_weekOf 74 = .ok (.isub, 1) := by decide +kernel
theorem dX6_weekOf_75 : decode cX6_weekOf 75 = .ok (.istore_n 3, 1) := by decide +kernel
theorem dX6_weekOf_76 : decode cX6_weekOf 76 = .ok (.aload_n 0, 1) := by decide +kernel
theorem dX6_weekOf_77 : decode cX6_weekOf 77 = .ok (.iload_n 1, 1) := by decide +kernel
theorem dX6_weekOf_78 : decode cX6_weekOf 78 = .ok (.bipush 11, 2) := by decide +kernel
theorem dX6_weekOf_80 : decode cX6_weekOf 80 = .ok (.iload_n 2, 1) := by decide +kernel
theorem dX6_weekOf_81 : decode cX6_weekOf 81 = .ok (.iadd, 1) := by decide +kernel
theorem dX6_weekOf_82 : decode cX6_weekOf 82 = .ok (.iload_n 3, 1) := by decide +kernel
theorem dX6_weekOf_83 : decode cX6_weekOf 83 = .ok (.ifCond .ge 7, 3) := by decide +kernel
theorem dX6_weekOf_86 : decode cX6_weekOf 86 = .ok (.iconst 0, 1) := by decide +kernel
theorem dX6_weekOf_87 : decode cX6_weekOf 87 = .ok (.goto 4, 3) := by decide +kernel
theorem dX6_weekOf_90 : decode cX6_weekOf 90 = .ok (.iload_n 3, 1) := by decide +kernel
theorem dX6_weekOf_91 : decode cX6_weekOf 91 = .ok (.invokevirtual 61, 3) := by decide +kernel
theorem dX6_weekOf_94 : decode cX6_weekOf 94 = .ok (.iinc 2 1, 3) := by decide +kernel
theorem dX6_weekOf_97 : decode cX6_weekOf 97 = .ok (.goto (-43), 3) := by decide +kernel
theorem dX6_weekOf_100 : decode cX6_weekOf 100 = .ok (.aload_n 0, 1) := by decide +kernel
theorem dX6_weekOf_101 : decode cX6_weekOf 101 = .ok (.iload_n 1, 1) := by decide +kernel
theorem dX6_weekOf_102 : decode cX6_weekOf 102 = .ok (.iconst 1, 1) := by decide +kernel
theorem dX6_weekOf_103 : decode cX6_weekOf 103 = .ok (.invokevirtual 36, 3) := by decide +kernel
theorem dX6_weekOf_106 : decode cX6_weekOf 106 = .ok (.ifCond .le 22, 3) := by decide +kernel
theorem dX6_weekOf_109 : decode cX6_weekOf 109 = .ok (.aload_n 0, 1) := by decide +kernel
theorem dX6_weekOf_110 : decode cX6_weekOf 110 = .ok (.iload_n 1, 1) := by decide +kernel
theorem dX6_weekOf_111 : decode cX6_weekOf 111 = .ok (.iconst 1, 1) := by decide +kernel
theorem dX6_weekOf_112 : decode cX6_weekOf 112 = .ok (.invokevirtual 36, 3) := by decide +kernel
theorem dX6_weekOf_115 : decode cX6_weekOf 115 = .ok (.aload_n 0, 1) := by decide +kernel
theorem dX6_weekOf_116 : decode cX6_weekOf 116 = .ok (.getfield 7, 3) := by decide +kernel
theorem dX6_weekOf_119 : decode cX6_weekOf 119 = .ok (.iconst 3, 1) := by decide +kernel
theorem dX6_weekOf_120 : decode cX6_weekOf 120 = .ok (.iaload, 1) := by decide +kernel
theorem dX6_weekOf_121 : decode cX6_weekOf 121 = .ok (.imul, 1) := by decide +kernel
theorem dX6_weekOf_122 : decode cX6_weekOf 122 = .ok (.bipush 100, 2) := by decide +kernel
theorem dX6_weekOf_124 : decode cX6_weekOf 124 = .ok (.idiv, 1) := by decide +kernel
theorem dX6_weekOf_125 : decode cX6_weekOf 125 = .ok (.goto 4, 3) := by decide +kernel
theorem dX6_weekOf_128 : decode cX6_weekOf 128 = .ok (.iconst 0, 1) := by decide +kernel
theorem dX6_weekOf_129 : decode cX6_weekOf 129 = .ok (.istore_n 2, 1) := by decide +kernel
theorem dX6_weekOf_130 : decode cX6_weekOf 130 = .ok (.aload_n 0, 1) := by decide +kernel
theorem dX6_weekOf_131 : decode cX6_weekOf 131 = .ok (.iload_n 1, 1) := by decide +kernel
theorem dX6_weekOf_132 : decode cX6_weekOf 132 = .ok (.iconst 1, 1) := by decide +kernel
theorem dX6_weekOf_133 : decode cX6_weekOf 133 = .ok (.iload_n 2, 1) := by decide +kernel
theorem dX6_weekOf_134 : decode cX6_weekOf 134 = .ok (.ineg, 1) := by decide +kernel
theorem dX6_weekOf_135 : decode cX6_weekOf 135 = .ok (.invokevirtual 51, 3) := by decide +kernel
theorem dX6_weekOf_138 : decode cX6_weekOf 138 = .ok (.aload_n 0, 1) := by decide +kernel
theorem dX6_weekOf_139 : decode cX6_weekOf 139 = .ok (.iload_n 1, 1) := by decide +kernel
theorem dX6_weekOf_140 : decode cX6_weekOf 140 = .ok (.bipush 9, 2) := by decide +kernel
theorem dX6_weekOf_142 : decode cX6_weekOf 142 = .ok (.iload_n 2, 1) := by decide +kernel
theorem dX6_weekOf_143 : decode cX6_weekOf 143 = .ok (.invokevirtual 51, 3) := by decide +kernel
theorem dX6_weekOf_146 : decode cX6_weekOf 146 = .ok (.aload_n 0, 1) := by decide +kernel
theorem dX6_weekOf_147 : decode cX6_weekOf 147 = .ok (.getfield 7, 3) := by decide +kernel
theorem dX6_weekOf_150 : decode cX6_weekOf 150 = .ok (.bipush 6, 2) := by decide +kernel
theorem dX6_weekOf_152 : decode cX6_weekOf 152 = .ok (.dup2, 1) := by decide +kernel
theorem dX6_weekOf_153 : decode cX6_weekOf 153 = .ok (.iaload, 1) := by decide +kernel
theorem dX6_weekOf_154 : decode cX6_weekOf 154 = .ok (.iload_n 2, 1) := by decide +kernel
theorem dX6_weekOf_155 : decode cX6_weekOf 155 = .ok (.iadd, 1) := by decide +kernel
theorem dX6_weekOf_156 : decode cX6_weekOf 156 = .ok (.iastore, 1) := by decide +kernel
theorem dX6_weekOf_157 : decode cX6_weekOf 157 = .ok (.iload_n 2, 1) := by decide +kernel
theorem dX6_weekOf_158 : decode cX6_weekOf 158 = .ok (.ireturn, 1) := by decide +kernel
theorem dX6_passes_0 : decode cX6_passes 0 = .ok (.iconst 0, 1) := by decide +kernel
theorem dX6_passes_1 : decode cX6_passes 1 = .ok (.istore_n 2, 1) := by decide +kernel
theorem dX6_passes_2 : decode cX6_passes 2 = .ok (.iconst 0, 1) := by decide +kernel
theorem dX6_passes_3 : decode cX6_passes 3 = .ok (.istore_n 3, 1) := by decide +kernel
theorem dX6_passes_4 : decode cX6_passes 4 = .ok (.iload_n 3, 1) := by decide +kernel
theorem dX6_passes_5 : decode cX6_passes 5 = .ok (.iload_n 1, 1) := by decide +kernel
theorem dX6_passes_6 : decode cX6_passes 6 = .ok (.if_icmp .ge 66, 3) := by decide +kernel
theorem dX6_passes_9 : decode cX6_passes 9 = .ok (.aload_n 0, 1) := by decide +kernel
theorem dX6_passes_10 : decode cX6_passes 10 = .ok (.getfield 7, 3) := by decide +kernel
theorem dX6_passes_13 : decode cX6_passes 13 = .ok (.bipush 8, 2) := by decide +kernel
theorem dX6_passes_15 : decode cX6_passes 15 = .ok (.dup2, 1) := by decide +kernel
theorem dX6_passes_16 : decode cX6_passes 16 = .ok (.iaload, 1) := by decide +kernel
theorem dX6_passes_17 : decode cX6_passes 17 = .ok (.iconst 1, 1) := by decide +kernel
theorem dX6_passes_18 : decode cX6_passes 18 = .ok (.iadd, 1) := by decide +kernel
theorem dX6_passes_19 : decode cX6_passes 19 = .ok (.iastore, 1) := by decide +kernel
theorem dX6_passes_20 : decode cX6_passes 20 = .ok (.iconst 0, 1) := by decide +kernel
theorem dX6_passes_21 : decode cX6_passes 21 = .ok (.istore 4, 2) := by decide +kernel
theorem dX6_passes_23 : decode cX6_passes 23 = .ok (.iload 4, 2) := by decide +kernel
theorem dX6_passes_25 : decode cX6_passes 25 = .ok (.aload_n 0, 1) := by decide +kernel
theorem dX6_passes_26 : decode cX6_passes 26 = .ok (.getfield 7, 3) := by decide +kernel
theorem dX6_passes_29 : decode cX6_passes 29 = .ok (.iconst 5, 1) := by decide +kernel
theorem dX6_passes_30 : decode cX6_passes 30 = .ok (.iaload, 1) := by decide +kernel
theorem dX6_passes_31 : decode cX6_passes 31 = .ok (.if_icmp .ge 35, 3) := by decide +kernel
theorem dX6_passes_34 : decode cX6_passes 34 = .ok (.aload_n 0, 1) := by decide +kernel
theorem dX6_passes_35 : decode cX6_passes 35 = .ok (.iload 4, 2) := by decide +kernel
theorem dX6_passes_37 : decode cX6_passes 37 = .ok (.invokevirtual 68, 3) := by decide +kernel
theorem dX6_passes_40 : decode cX6_passes 40 = .ok (.ifCond .eq 12, 3) := by decide +kernel
theorem dX6_passes_43 : decode cX6_passes 43 = .ok (.aload_n 0, 1) := by decide +kernel
theorem dX6_passes_44 : decode cX6_passes 44 = .ok (.iload 4, 2) := by decide +kernel
theorem dX6_passes_46 : decode cX6_passes 46 = .ok (.invokevirtual 99, 3) := by decide +kernel
theorem dX6_passes_49 : decode cX6_passes 49 = .ok (.goto 4, 3) := by decide +kernel
theorem dX6_passes_52 : decode cX6_passes 52 = .ok (.iconst 0, 1) := by decide +kernel
theorem dX6_passes_53 : decode cX6_passes 53 = .ok (.istore 5, 2) := by decide +kernel
theorem dX6_passes_55 : decode cX6_passes 55 = .ok (.iload_n 2, 1) := by decide +kernel
theorem dX6_passes_56 : decode cX6_passes 56 = .ok (.iload 5, 2) := by decide +kernel
theorem dX6_passes_58 : decode cX6_passes 58 = .ok (.iadd, 1) := by decide +kernel
theorem dX6_passes_59 : decode cX6_passes 59 = .ok (.istore_n 2, 1) := by decide +kernel
theorem dX6_passes_60 : decode cX6_passes 60 = .ok (.iinc 4 1, 3) := by decide +kernel
theorem dX6_passes_63 : decode cX6_passes 63 = .ok (.goto (-40), 3) := by decide +kernel
theorem dX6_passes_66 : decode cX6_passes 66 = .ok (.iinc 3 1, 3) := by decide +kernel
theorem dX6_passes_69 : decode cX6_passes 69 = .ok (.goto (-65), 3) := by decide +kernel
theorem dX6_passes_72 : decode cX6_passes 72 = .ok (.iload_n 2, 1) := by decide +kernel
theorem dX6_passes_73 : decode cX6_passes 73 = .ok (.ireturn, 1) := by decide +kernel
theorem dX6_pass_0 : decode cX6_pass 0 = .ok (.aload_n 0, 1) := by decide +kernel
theorem dX6_pass_1 : decode cX6_pass 1 = .ok (.iload_n 1, 1) := by decide +kernel
theorem dX6_pass_2 : decode cX6_pass 2 = .ok (.iconst 1, 1) := by decide +kernel
theorem dX6_pass_3 : decode cX6_pass 3 = .ok (.bipush 50, 2) := by decide +kernel
theorem dX6_pass_5 : decode cX6_pass 5 = .ok (.invokestatic 32, 3) := by decide +kernel
theorem dX6_pass_8 : decode cX6_pass 8 = .ok (.ifCond .ne 7, 3) := by decide +kernel
theorem dX6_pass_11 : decode cX6_pass 11 = .ok (.iconst 1, 1) := by decide +kernel
theorem dX6_pass_12 : decode cX6_pass 12 = .ok (.goto 23, 3) := by decide +kernel
theorem dX6_pass_15 : decode cX6_pass 15 = .ok (.aload_n 0, 1) := by decide +kernel
theorem dX6_pass_16 : decode cX6_pass 16 = .ok (.getfield 7, 3) := by decide +kernel
theorem dX6_pass_19 : decode cX6_pass 19 = .ok (.bipush 8, 2) := by decide +kernel
theorem dX6_pass_21 : decode cX6_pass 21 = .ok (.iaload, 1) := by decide +kernel
theorem dX6_pass_22 : decode cX6_pass 22 = .ok (.iload_n 1, 1) := by decide +kernel
theorem dX6_pass_23 : decode cX6_pass 23 = .ok (.iadd, 1) := by decide +kernel
theorem dX6_pass_24 : decode cX6_pass 24 = .ok (.sipush 2000, 3) := by decide +kernel
theorem dX6_pass_27 : decode cX6_pass 27 = .ok (.if_icmp .le 7, 3) := by decide +kernel
theorem dX6_pass_30 : decode cX6_pass 30 = .ok (.iconst 2, 1) := by decide +kernel
theorem dX6_pass_31 : decode cX6_pass 31 = .ok (.goto 4, 3) := by decide +kernel
theorem dX6_pass_34 : decode cX6_pass 34 = .ok (.iconst 0, 1) := by decide +kernel
theorem dX6_pass_35 : decode cX6_pass 35 = .ok (.putfield 25, 3) := by decide +kernel
theorem dX6_pass_38 : decode cX6_pass 38 = .ok (.aload_n 0, 1) := by decide +kernel
theorem dX6_pass_39 : decode cX6_pass 39 = .ok (.getfield 25, 3) := by decide +kernel
theorem dX6_pass_42 : decode cX6_pass 42 = .ok (.ifCond .le 5, 3) := by decide +kernel
theorem dX6_pass_45 : decode cX6_pass 45 = .ok (.iconst 0, 1) := by decide +kernel
theorem dX6_pass_46 : decode cX6_pass 46 = .ok (.ireturn, 1) := by decide +kernel
theorem dX6_pass_47 : decode cX6_pass 47 = .ok (.aload_n 0, 1) := by decide +kernel
theorem dX6_pass_48 : decode cX6_pass 48 = .ok (.invokevirtual 58, 3) := by decide +kernel
theorem dX6_pass_51 : decode cX6_pass 51 = .ok (.aload_n 0, 1) := by decide +kernel
theorem dX6_pass_52 : decode cX6_pass 52 = .ok (.iload_n 1, 1) := by decide +kernel
theorem dX6_pass_53 : decode cX6_pass 53 = .ok (.invokevirtual 102, 3) := by decide +kernel
theorem dX6_pass_56 : decode cX6_pass 56 = .ok (.ireturn, 1) := by decide +kernel
theorem dX6_isSetting_0 : decode cX6_isSetting 0 = .ok (.iload_n 0, 1) := by decide +kernel
theorem dX6_isSetting_1 : decode cX6_isSetting 1 = .ok (.iconst 0, 1) := by decide +kernel
theorem dX6_isSetting_2 : decode cX6_isSetting 2 = .ok (.iconst 4, 1) := by decide +kernel
theorem dX6_isSetting_3 : decode cX6_isSetting 3 = .ok (.invokestatic 32, 3) := by decide +kernel
theorem dX6_isSetting_6 : decode cX6_isSetting 6 = .ok (.ireturn, 1) := by decide +kernel
theorem dX6_greatest_0 : decode cX6_greatest 0 = .ok (.iload_n 0, 1) := by decide +kernel
theorem dX6_greatest_1 : decode cX6_greatest 1 = .ok (.tableswitch 45 0 3 #[31, 35, 39, 42], 31) := by decide +kernel
theorem dX6_greatest_32 : decode cX6_greatest 32 = .ok (.sipush 9999, 3) := by decide +kernel
theorem dX6_greatest_35 : decode cX6_greatest 35 = .ok (.ireturn, 1) := by decide +kernel
theorem dX6_greatest_36 : decode cX6_greatest 36 = .ok (.sipush 999, 3) := by decide +kernel
theorem dX6_greatest_39 : decode cX6_greatest 39 = .ok (.ireturn, 1) := by decide +kernel
theorem dX6_greatest_40 : decode cX6_greatest 40 = .ok (.bipush 20, 2) := by decide +kernel
theorem dX6_greatest_42 : decode cX6_greatest 42 = .ok (.ireturn, 1) := by decide +kernel
theorem dX6_greatest_43 : decode cX6_greatest 43 = .ok (.bipush 100, 2) := by decide +kernel
theorem dX6_greatest_45 : decode cX6_greatest 45 = .ok (.ireturn, 1) := by decide +kernel
theorem dX6_greatest_46 : decode cX6_greatest 46 = .ok (.sipush 300, 3) := by decide +kernel
theorem dX6_greatest_49 : decode cX6_greatest 49 = .ok (.ireturn, 1) := by decide +kernel
theorem dX6_set_0 : decode cX6_set 0 = .ok (.aload_n 0, 1) := by decide +kernel
theorem dX6_set_1 : decode cX6_set 1 = .ok (.iload_n 1, 1) := by decide +kernel
theorem dX6_set_2 : decode cX6_set 2 = .ok (.invokestatic 105, 3) := by decide +kernel
theorem dX6_set_5 : decode cX6_set 5 = .ok (.ifCond .ne 7, 3) := by decide +kernel
theorem dX6_set_8 : decode cX6_set 8 = .ok (.iconst 1, 1) := by decide +kernel
theorem dX6_set_9 : decode cX6_set 9 = .ok (.goto 20, 3) := by decide +kernel
theorem dX6_set_12 : decode cX6_set 12 = .ok (.iload_n 2, 1) := by decide +kernel
theorem dX6_set_13 : decode cX6_set 13 = .ok (.iconst 0, 1) := by decide +kernel
theorem dX6_set_14 : decode cX6_set 14 = .ok (.iload_n 1, 1) := by decide +kernel
theorem dX6_set_15 : decode cX6_set 15 = .ok (.invokestatic 108, 3) := by decide +kernel
theorem dX6_set_18 : decode cX6_set 18 = .ok (.invokestatic 32, 3) := by decide +kernel
theorem dX6_set_21 : decode cX6_set 21 = .ok (.ifCond .eq 7, 3) := by decide +kernel
theorem dX6_set_24 : decode cX6_set 24 = .ok (.iconst 0, 1) := by decide +kernel
theorem dX6_set_25 : decode cX6_set 25 = .ok (.goto 4, 3) := by decide +kernel
theorem dX6_set_28 : decode cX6_set 28 = .ok (.iconst 2, 1) := by decide +kernel
theorem dX6_set_29 : decode cX6_set 29 = .ok (.putfield 25, 3) := by decide +kernel
theorem dX6_set_32 : decode cX6_set 32 = .ok (.aload_n 0, 1) := by decide +kernel
theorem dX6_set_33 : decode cX6_set 33 = .ok (.getfield 25, 3) := by decide +kernel
theorem dX6_set_36 : decode cX6_set 36 = .ok (.ifCond .le 5, 3) := by decide +kernel
theorem dX6_set_39 : decode cX6_set 39 = .ok (.iconst 0, 1) := by decide +kernel
theorem dX6_set_40 : decode cX6_set 40 = .ok (.ireturn, 1) := by decide +kernel
theorem dX6_set_41 : decode cX6_set 41 = .ok (.aload_n 0, 1) := by decide +kernel
theorem dX6_set_42 : decode cX6_set 42 = .ok (.invokevirtual 58, 3) := by decide +kernel
theorem dX6_set_45 : decode cX6_set 45 = .ok (.aload_n 0, 1) := by decide +kernel
theorem dX6_set_46 : decode cX6_set 46 = .ok (.getfield 7, 3) := by decide +kernel
theorem dX6_set_49 : decode cX6_set 49 = .ok (.iload_n 1, 1) := by decide +kernel
theorem dX6_set_50 : decode cX6_set 50 = .ok (.iaload, 1) := by decide +kernel
theorem dX6_set_51 : decode cX6_set 51 = .ok (.istore_n 3, 1) := by decide +kernel
theorem dX6_set_52 : decode cX6_set 52 = .ok (.aload_n 0, 1) := by decide +kernel
theorem dX6_set_53 : decode cX6_set 53 = .ok (.getfield 7, 3) := by decide +kernel
theorem dX6_set_56 : decode cX6_set 56 = .ok (.iload_n 1, 1) := by decide +kernel
theorem dX6_set_57 : decode cX6_set 57 = .ok (.iload_n 2, 1) := by decide +kernel
theorem dX6_set_58 : decode cX6_set 58 = .ok (.iastore, 1) := by decide +kernel
theorem dX6_set_59 : decode cX6_set 59 = .ok (.iload_n 3, 1) := by decide +kernel
theorem dX6_set_60 : decode cX6_set 60 = .ok (.ireturn, 1) := by decide +kernel
theorem dX6_canMove_0 : decode cX6_canMove 0 = .ok (.aload_n 0, 1) := by decide +kernel
theorem dX6_canMove_1 : decode cX6_canMove 1 = .ok (.iload_n 1, 1) := by decide +kernel
theorem dX6_canMove_2 : decode cX6_canMove 2 = .ok (.invokevirtual 68, 3) := by decide +kernel
theorem dX6_canMove_5 : decode cX6_canMove 5 = .ok (.ifCond .eq 29, 3) := by decide +kernel
theorem dX6_canMove_8 : decode cX6_canMove 8 = .ok (.aload_n 0, 1) := by decide +kernel
theorem dX6_canMove_9 : decode cX6_canMove 9 = .ok (.getfield 7, 3) := by decide +kernel
theorem dX6_canMove_12 : decode cX6_canMove 12 = .ok (.bipush 10, 2) := by decide +kernel
theorem dX6_canMove_14 : decode cX6_canMove 14 = .ok (.iaload, 1) := by decide +kernel
theorem dX6_canMove_15 : decode cX6_canMove 15 = .ok (.iconst (-1), 1) := by decide +kernel
theorem dX6_canMove_16 : decode cX6_canMove 16 = .ok (.if_icmp .ne 18, 3) := by decide +kernel
theorem dX6_canMove_19 : decode cX6_canMove 19 = .ok (.aload_n 0, 1) := by decide +kernel
theorem dX6_canMove_20 : decode cX6_canMove 20 = .ok (.iload_n 1, 1) := by decide +kernel
theorem dX6_canMove_21 : decode cX6_canMove 21 = .ok (.iconst 1, 1) := by decide +kernel
theorem dX6_canMove_22 : decode cX6_canMove 22 = .ok (.invokevirtual 36, 3) := by decide +kernel
theorem dX6_canMove_25 : decode cX6_canMove 25 = .ok (.ineg, 1) := by decide +kernel
theorem dX6_canMove_26 : decode cX6_canMove 26 = .ok (.iload_n 2, 1) := by decide +kernel
theorem dX6_canMove_27 : decode cX6_canMove 27 = .ok (.if_icmp .lt 7, 3) := by decide +kernel
theorem dX6_canMove_30 : decode cX6_canMove 30 = .ok (.iconst 1, 1) := by decide +kernel
theorem dX6_canMove_31 : decode cX6_canMove 31 = .ok (.goto 4, 3) := by decide +kernel
theorem dX6_canMove_34 : decode cX6_canMove 34 = .ok (.iconst 0, 1) := by decide +kernel
theorem dX6_canMove_35 : decode cX6_canMove 35 = .ok (.ireturn, 1) := by decide +kernel
theorem dX6_move_0 : decode cX6_move 0 = .ok (.aload_n 0, 1) := by decide +kernel
theorem dX6_move_1 : decode cX6_move 1 = .ok (.aload_n 0, 1) := by decide +kernel
theorem dX6_move_2 : decode cX6_move 2 = .ok (.iload_n 1, 1) := by decide +kernel
theorem dX6_move_3 : decode cX6_move 3 = .ok (.invokevirtual 64, 3) := by decide +kernel
theorem dX6_move_6 : decode cX6_move 6 = .ok (.ifCond .ne 7, 3) := by decide +kernel
theorem dX6_move_9 : decode cX6_move 9 = .ok (.iconst 1, 1) := by decide +kernel
theorem dX6_move_10 : decode cX6_move 10 = .ok (.goto 26, 3) := by decide +kernel
theorem dX6_move_13 : decode cX6_move 13 = .ok (.iload_n 2, 1) := by decide +kernel
theorem dX6_move_14 : decode cX6_move 14 = .ok (.iconst 1, 1) := by decide +kernel
theorem dX6_move_15 : decode cX6_move 15 = .ok (.if_icmp .ge 7, 3) := by decide +kernel
theorem dX6_move_18 : decode cX6_move 18 = .ok (.iconst 2, 1) := by decide +kernel
theorem dX6_move_19 : decode cX6_move 19 = .ok (.goto 17, 3) := by decide +kernel
theorem dX6_move_22 : decode cX6_move 22 = .ok (.aload_n 0, 1) := by decide +kernel
theorem dX6_move_23 : decode cX6_move 23 = .ok (.iload_n 1, 1) := by decide +kernel
theorem dX6_move_24 : decode cX6_move 24 = .ok (.iload_n 2, 1) := by decide +kernel
theorem dX6_move_25 : decode cX6_move 25 = .ok (.invokevirtual 111, 3) := by decide +kernel
theorem dX6_move_28 : decode cX6_move 28 = .ok (.ifCond .eq 7, 3) := by decide +kernel
theorem dX6_move_31 : decode cX6_move 31 = .ok (.iconst 0, 1) := by decide +kernel
theorem dX6_move_32 : decode cX6_move 32 = .ok (.goto 4, 3) := by decide +kernel
theorem dX6_move_35 : decode cX6_move 35 = .ok (.iconst 3, 1) := by decide +kernel
theorem dX6_move_36 : decode cX6_move 36 = .ok (.putfield 25, 3) := by decide +kernel
theorem dX6_move_39 : decode cX6_move 39 = .ok (.aload_n 0, 1) := by decide +kernel
theorem dX6_move_40 : decode cX6_move 40 = .ok (.getfield 25, 3) := by decide +kernel
theorem dX6_move_43 : decode cX6_move 43 = .ok (.ifCond .le 5, 3) := by decide +kernel
theorem dX6_move_46 : decode cX6_move 46 = .ok (.iconst 0, 1) := by decide +kernel
theorem dX6_move_47 : decode cX6_move 47 = .ok (.ireturn, 1) := by decide +kernel
theorem dX6_move_48 : decode cX6_move 48 = .ok (.aload_n 0, 1) := by decide +kernel
theorem dX6_move_49 : decode cX6_move 49 = .ok (.invokevirtual 58, 3) := by decide +kernel
theorem dX6_move_52 : decode cX6_move 52 = .ok (.aload_n 0, 1) := by decide +kernel
theorem dX6_move_53 : decode cX6_move 53 = .ok (.getfield 7, 3) := by decide +kernel
theorem dX6_move_56 : decode cX6_move 56 = .ok (.bipush 10, 2) := by decide +kernel
theorem dX6_move_58 : decode cX6_move 58 = .ok (.iload_n 1, 1) := by decide +kernel
theorem dX6_move_59 : decode cX6_move 59 = .ok (.iastore, 1) := by decide +kernel
theorem dX6_move_60 : decode cX6_move 60 = .ok (.aload_n 0, 1) := by decide +kernel
theorem dX6_move_61 : decode cX6_move 61 = .ok (.getfield 7, 3) := by decide +kernel
theorem dX6_move_64 : decode cX6_move 64 = .ok (.bipush 11, 2) := by decide +kernel
theorem dX6_move_66 : decode cX6_move 66 = .ok (.iload_n 2, 1) := by decide +kernel
theorem dX6_move_67 : decode cX6_move 67 = .ok (.iastore, 1) := by decide +kernel
theorem dX6_move_68 : decode cX6_move 68 = .ok (.aload_n 0, 1) := by decide +kernel
theorem dX6_move_69 : decode cX6_move 69 = .ok (.iload_n 1, 1) := by decide +kernel
theorem dX6_move_70 : decode cX6_move 70 = .ok (.invokevirtual 44, 3) := by decide +kernel
theorem dX6_move_73 : decode cX6_move 73 = .ok (.ireturn, 1) := by decide +kernel
theorem dX6_canVote_0 : decode cX6_canVote 0 = .ok (.aload_n 0, 1) := by decide +kernel
theorem dX6_canVote_1 : decode cX6_canVote 1 = .ok (.getfield 7, 3) := by decide +kernel
theorem dX6_canVote_4 : decode cX6_canVote 4 = .ok (.bipush 10, 2) := by decide +kernel
theorem dX6_canVote_6 : decode cX6_canVote 6 = .ok (.iaload, 1) := by decide +kernel
theorem dX6_canVote_7 : decode cX6_canVote 7 = .ok (.iconst (-1), 1) := by decide +kernel
theorem dX6_canVote_8 : decode cX6_canVote 8 = .ok (.if_icmp .eq 48, 3) := by decide +kernel
theorem dX6_canVote_11 : decode cX6_canVote 11 = .ok (.aload_n 0, 1) := by decide +kernel
theorem dX6_canVote_12 : decode cX6_canVote 12 = .ok (.getfield 7, 3) := by decide +kernel
theorem dX6_canVote_15 : decode cX6_canVote 15 = .ok (.bipush 10, 2) := by decide +kernel
theorem dX6_canVote_17 : decode cX6_canVote 17 = .ok (.iaload, 1) := by decide +kernel
theorem dX6_canVote_18 : decode cX6_canVote 18 = .ok (.iload_n 1, 1) := by decide +kernel
theorem dX6_canVote_19 : decode cX6_canVote 19 = .ok (.if_icmp .eq 37, 3) := by decide +kernel
theorem dX6_canVote_22 : decode cX6_canVote 22 = .ok (.aload_n 0, 1) := by decide +kernel
theorem dX6_canVote_23 : decode cX6_canVote 23 = .ok (.iload_n 1, 1) := by decide +kernel
theorem dX6_canVote_24 : decode cX6_canVote 24 = .ok (.invokevirtual 68, 3) := by decide +kernel
theorem dX6_canVote_27 : decode cX6_canVote 27 = .ok (.ifCond .eq 29, 3) := by decide +kernel
theorem dX6_canVote_30 : decode cX6_canVote 30 = .ok (.aload_n 0, 1) := by decide +kernel
theorem dX6_canVote_31 : decode cX6_canVote 31 = .ok (.getfield 7, 3) := by decide +kernel
theorem dX6_canVote_34 : decode cX6_canVote 34 = .ok (.bipush 12, 2) := by decide +kernel
theorem dX6_canVote_36 : decode cX6_canVote 36 = .ok (.iaload, 1) := by decide +kernel
theorem dX6_canVote_37 : decode cX6_canVote 37 = .ok (.aload_n 0, 1) := by decide +kernel
theorem dX6_canVote_38 : decode cX6_canVote 38 = .ok (.getfield 7, 3) := by decide +kernel
theorem dX6_canVote_41 : decode cX6_canVote 41 = .ok (.bipush 13, 2) := by decide +kernel
theorem dX6_canVote_43 : decode cX6_canVote 43 = .ok (.iaload, 1) := by decide +kernel
theorem dX6_canVote_44 : decode cX6_canVote 44 = .ok (.ior, 1) := by decide +kernel
theorem dX6_canVote_45 : decode cX6_canVote 45 = .ok (.iload_n 1, 1) := by decide +kernel
theorem dX6_canVote_46 : decode cX6_canVote 46 = .ok (.invokestatic 114, 3) := by decide +kernel
theorem dX6_canVote_49 : decode cX6_canVote 49 = .ok (.ifCond .ne 7, 3) := by decide +kernel
theorem dX6_canVote_52 : decode cX6_canVote 52 = .ok (.iconst 1, 1) := by decide +kernel
theorem dX6_canVote_53 : decode cX6_canVote 53 = .ok (.goto 4, 3) := by decide +kernel
theorem dX6_canVote_56 : decode cX6_canVote 56 = .ok (.iconst 0, 1) := by decide +kernel
theorem dX6_canVote_57 : decode cX6_canVote 57 = .ok (.ireturn, 1) := by decide +kernel
theorem dX6_vote_0 : decode cX6_vote 0 = .ok (.aload_n 0, 1) := by decide +kernel
theorem dX6_vote_1 : decode cX6_vote 1 = .ok (.aload_n 0, 1) := by decide +kernel
theorem dX6_vote_2 : decode cX6_vote 2 = .ok (.iload_n 1, 1) := by decide +kernel
theorem dX6_vote_3 : decode cX6_vote 3 = .ok (.invokevirtual 64, 3) := by decide +kernel
theorem dX6_vote_6 : decode cX6_vote 6 = .ok (.ifCond .ne 7, 3) := by decide +kernel
theorem dX6_vote_9 : decode cX6_vote 9 = .ok (.iconst 1, 1) := by decide +kernel
theorem dX6_vote_10 : decode cX6_vote 10 = .ok (.goto 16, 3) := by decide +kernel
theorem dX6_vote_13 : decode cX6_vote 13 = .ok (.aload_n 0, 1) := by decide +kernel
theorem dX6_vote_14 : decode cX6_vote 14 = .ok (.iload_n 1, 1) := by decide +kernel
theorem dX6_vote_15 : decode cX6_vote 15 = .ok (.invokevirtual 117, 3) := by decide +kernel
theorem dX6_vote_18 : decode cX6_vote 18 = .ok (.ifCond .eq 7, 3) := by decide +kernel
theorem dX6_vote_21 : decode cX6_vote 21 = .ok (.iconst 0, 1) := by decide +kernel
theorem dX6_vote_22 : decode cX6_vote 22 = .ok (.goto 4, 3) := by decide +kernel
theorem dX6_vote_25 : decode cX6_vote 25 = .ok (.iconst 2, 1) := by decide +kernel
theorem dX6_vote_26 : decode cX6_vote 26 = .ok (.putfield 25, 3) := by decide +kernel
theorem dX6_vote_29 : decode cX6_vote 29 = .ok (.aload_n 0, 1) := by decide +kernel
theorem dX6_vote_30 : decode cX6_vote 30 = .ok (.getfield 25, 3) := by decide +kernel
theorem dX6_vote_33 : decode cX6_vote 33 = .ok (.ifCond .le 5, 3) := by decide +kernel
theorem dX6_vote_36 : decode cX6_vote 36 = .ok (.iconst 0, 1) := by decide +kernel
theorem dX6_vote_37 : decode cX6_vote 37 = .ok (.ireturn, 1) := by decide +kernel
theorem dX6_vote_38 : decode cX6_vote 38 = .ok (.aload_n 0, 1) := by decide +kernel
theorem dX6_vote_39 : decode cX6_vote 39 = .ok (.invokevirtual 58, 3) := by decide +kernel
theorem dX6_vote_42 : decode cX6_vote 42 = .ok (.aload_n 0, 1) := by decide +kernel
theorem dX6_vote_43 : decode cX6_vote 43 = .ok (.getfield 7, 3) := by decide +kernel
theorem dX6_vote_46 : decode cX6_vote 46 = .ok (.iload_n 2, 1) := by decide +kernel
theorem dX6_vote_47 : decode cX6_vote 47 = .ok (.ifCond .eq 8, 3) := by decide +kernel
theorem dX6_vote_50 : decode cX6_vote 50 = .ok (.bipush 12, 2) := by decide +kernel
theorem dX6_vote_52 : decode cX6_vote 52 = .ok (.goto 5, 3) := by decide +kernel
theorem dX6_vote_55 : decode cX6_vote 55 = .ok (.bipush 13, 2) := by decide +kernel
theorem dX6_vote_57 : decode cX6_vote 57 = .ok (.dup2, 1) := by decide +kernel
theorem dX6_vote_58 : decode cX6_vote 58 = .ok (.iaload, 1) := by decide +kernel
theorem dX6_vote_59 : decode cX6_vote 59 = .ok (.iconst 1, 1) := by decide +kernel
theorem dX6_vote_60 : decode cX6_vote 60 = .ok (.iload_n 1, 1) := by decide +kernel
theorem dX6_vote_61 : decode cX6_vote 61 = .ok (.ishl, 1) := by decide +kernel
theorem dX6_vote_62 : decode cX6_vote 62 = .ok (.ior, 1) := by decide +kernel
theorem dX6_vote_63 : decode cX6_vote 63 = .ok (.iastore, 1) := by decide +kernel
theorem dX6_vote_64 : decode cX6_vote 64 = .ok (.aload_n 0, 1) := by decide +kernel
theorem dX6_vote_65 : decode cX6_vote 65 = .ok (.invokevirtual 71, 3) := by decide +kernel
theorem dX6_vote_68 : decode cX6_vote 68 = .ok (.ireturn, 1) := by decide +kernel
theorem dX6_takeBack_0 : decode cX6_takeBack 0 = .ok (.aload_n 0, 1) := by decide +kernel
theorem dX6_takeBack_1 : decode cX6_takeBack 1 = .ok (.aload_n 0, 1) := by decide +kernel
theorem dX6_takeBack_2 : decode cX6_takeBack 2 = .ok (.getfield 7, 3) := by decide +kernel
theorem dX6_takeBack_5 : decode cX6_takeBack 5 = .ok (.bipush 10, 2) := by decide +kernel
theorem dX6_takeBack_7 : decode cX6_takeBack 7 = .ok (.iaload, 1) := by decide +kernel
theorem dX6_takeBack_8 : decode cX6_takeBack 8 = .ok (.iconst (-1), 1) := by decide +kernel
theorem dX6_takeBack_9 : decode cX6_takeBack 9 = .ok (.if_icmp .ne 7, 3) := by decide +kernel
theorem dX6_takeBack_12 : decode cX6_takeBack 12 = .ok (.iconst 1, 1) := by decide +kernel
theorem dX6_takeBack_13 : decode cX6_takeBack 13 = .ok (.goto 4, 3) := by decide +kernel
theorem dX6_takeBack_16 : decode cX6_takeBack 16 = .ok (.iconst 0, 1) := by decide +kernel
theorem dX6_takeBack_17 : decode cX6_takeBack 17 = .ok (.putfield 25, 3) := by decide +kernel
theorem dX6_takeBack_20 : decode cX6_takeBack 20 = .ok (.aload_n 0, 1) := by decide +kernel
theorem dX6_takeBack_21 : decode cX6_takeBack 21 = .ok (.getfield 25, 3) := by decide +kernel
theorem dX6_takeBack_24 : decode cX6_takeBack 24 = .ok (.ifCond .le 5, 3) := by decide +kernel
theorem dX6_takeBack_27 : decode cX6_takeBack 27 = .ok (.iconst 0, 1) := by decide +kernel
theorem dX6_takeBack_28 : decode cX6_takeBack 28 = .ok (.ireturn, 1) := by decide +kernel
theorem dX6_takeBack_29 : decode cX6_takeBack 29 = .ok (.aload_n 0, 1) := by decide +kernel
theorem dX6_takeBack_30 : decode cX6_takeBack 30 = .ok (.invokevirtual 58, 3) := by decide +kernel
theorem dX6_takeBack_33 : decode cX6_takeBack 33 = .ok (.aload_n 0, 1) := by decide +kernel
theorem dX6_takeBack_34 : decode cX6_takeBack 34 = .ok (.getfield 7, 3) := by decide +kernel
theorem dX6_takeBack_37 : decode cX6_takeBack 37 = .ok (.bipush 12, 2) := by decide +kernel
theorem dX6_takeBack_39 : decode cX6_takeBack 39 = .ok (.iaload, 1) := by decide +kernel
theorem dX6_takeBack_40 : decode cX6_takeBack 40 = .ok (.aload_n 0, 1) := by decide +kernel
theorem dX6_takeBack_41 : decode cX6_takeBack 41 = .ok (.getfield 7, 3) := by decide +kernel
theorem dX6_takeBack_44 : decode cX6_takeBack 44 = .ok (.bipush 13, 2) := by decide +kernel
theorem dX6_takeBack_46 : decode cX6_takeBack 46 = .ok (.iaload, 1) := by decide +kernel
theorem dX6_takeBack_47 : decode cX6_takeBack 47 = .ok (.ior, 1) := by decide +kernel
theorem dX6_takeBack_48 : decode cX6_takeBack 48 = .ok (.invokestatic 48, 3) := by decide +kernel
theorem dX6_takeBack_51 : decode cX6_takeBack 51 = .ok (.istore_n 1, 1) := by decide +kernel
theorem dX6_takeBack_52 : decode cX6_takeBack 52 = .ok (.aload_n 0, 1) := by decide +kernel
theorem dX6_takeBack_53 : decode cX6_takeBack 53 = .ok (.invokevirtual 55, 3) := by decide +kernel
theorem dX6_takeBack_56 : decode cX6_takeBack 56 = .ok (.iload_n 1, 1) := by decide +kernel
theorem dX6_takeBack_57 : decode cX6_takeBack 57 = .ok (.ireturn, 1) := by decide +kernel
theorem dX6_append_0 : decode cX6_append 0 = .ok (.aload_n 0, 1) := by decide +kernel
theorem dX6_append_1 : decode cX6_append 1 = .ok (.iload_n 1, 1) := by decide +kernel
theorem dX6_append_2 : decode cX6_append 2 = .ok (.bipush 33, 2) := by decide +kernel
theorem dX6_append_4 : decode cX6_append 4 = .ok (.bipush 126, 2) := by decide +kernel
theorem dX6_append_6 : decode cX6_append 6 = .ok (.invokestatic 32, 3) := by decide +kernel
theorem dX6_append_9 : decode cX6_append 9 = .ok (.ifCond .ne 7, 3) := by decide +kernel
theorem dX6_append_12 : decode cX6_append 12 = .ok (.iconst 1, 1) := by decide +kernel
theorem dX6_append_13 : decode cX6_append 13 = .ok (.goto 17, 3) := by decide +kernel
theorem dX6_append_16 : decode cX6_append 16 = .ok (.aload_n 0, 1) := by decide +kernel
theorem dX6_append_17 : decode cX6_append 17 = .ok (.getfield 120, 3) := by decide +kernel
theorem dX6_append_20 : decode cX6_append 20 = .ok (.bipush 60, 2) := by decide +kernel
theorem dX6_append_22 : decode cX6_append 22 = .ok (.if_icmp .ne 7, 3) := by decide +kernel
theorem dX6_append_25 : decode cX6_append 25 = .ok (.iconst 2, 1) := by decide +kernel
theorem dX6_append_26 : decode cX6_append 26 = .ok (.goto 4, 3) := by decide +kernel
theorem dX6_append_29 : decode cX6_append 29 = .ok (.iconst 0, 1) := by decide +kernel
theorem dX6_append_30 : decode cX6_append 30 = .ok (.putfield 25, 3) := by decide +kernel
theorem dX6_append_33 : decode cX6_append 33 = .ok (.aload_n 0, 1) := by decide +kernel
theorem dX6_append_34 : decode cX6_append 34 = .ok (.getfield 25, 3) := by decide +kernel
theorem dX6_append_37 : decode cX6_append 37 = .ok (.ifCond .le 5, 3) := by decide +kernel
theorem dX6_append_40 : decode cX6_append 40 = .ok (.iconst 0, 1) := by decide +kernel
theorem dX6_append_41 : decode cX6_append 41 = .ok (.ireturn, 1) := by decide +kernel
theorem dX6_append_42 : decode cX6_append 42 = .ok (.aload_n 0, 1) := by decide +kernel
theorem dX6_append_43 : decode cX6_append 43 = .ok (.getfield 16, 3) := by decide +kernel
theorem dX6_append_46 : decode cX6_append 46 = .ok (.aload_n 0, 1) := by decide +kernel
theorem dX6_append_47 : decode cX6_append 47 = .ok (.getfield 120, 3) := by decide +kernel
theorem dX6_append_50 : decode cX6_append 50 = .ok (.iload_n 1, 1) := by decide +kernel
theorem dX6_append_51 : decode cX6_append 51 = .ok (.iastore, 1) := by decide +kernel
theorem dX6_append_52 : decode cX6_append 52 = .ok (.aload_n 0, 1) := by decide +kernel
theorem dX6_append_53 : decode cX6_append 53 = .ok (.dup, 1) := by decide +kernel
theorem dX6_append_54 : decode cX6_append 54 = .ok (.getfield 120, 3) := by decide +kernel
theorem dX6_append_57 : decode cX6_append 57 = .ok (.iconst 1, 1) := by decide +kernel
theorem dX6_append_58 : decode cX6_append 58 = .ok (.iadd, 1) := by decide +kernel
theorem dX6_append_59 : decode cX6_append 59 = .ok (.putfield 120, 3) := by decide +kernel
theorem dX6_append_62 : decode cX6_append 62 = .ok (.aload_n 0, 1) := by decide +kernel
theorem dX6_append_63 : decode cX6_append 63 = .ok (.getfield 120, 3) := by decide +kernel
theorem dX6_append_66 : decode cX6_append 66 = .ok (.ireturn, 1) := by decide +kernel
theorem dX6_clearBuffer_0 : decode cX6_clearBuffer 0 = .ok (.aload_n 0, 1) := by decide +kernel
theorem dX6_clearBuffer_1 : decode cX6_clearBuffer 1 = .ok (.iconst 0, 1) := by decide +kernel
theorem dX6_clearBuffer_2 : decode cX6_clearBuffer 2 = .ok (.putfield 25, 3) := by decide +kernel
theorem dX6_clearBuffer_5 : decode cX6_clearBuffer 5 = .ok (.aload_n 0, 1) := by decide +kernel
theorem dX6_clearBuffer_6 : decode cX6_clearBuffer 6 = .ok (.getfield 120, 3) := by decide +kernel
theorem dX6_clearBuffer_9 : decode cX6_clearBuffer 9 = .ok (.istore_n 1, 1) := by decide +kernel
theorem dX6_clearBuffer_10 : decode cX6_clearBuffer 10 = .ok (.aload_n 0, 1) := by decide +kernel
theorem dX6_clearBuffer_11 : decode cX6_clearBuffer 11 = .ok (.iconst 0, 1) := by decide +kernel
theorem dX6_clearBuffer_12 : decode cX6_clearBuffer 12 = .ok (.putfield 120, 3) := by decide +kernel
theorem dX6_clearBuffer_15 : decode cX6_clearBuffer 15 = .ok (.iload_n 1, 1) := by decide +kernel
theorem dX6_clearBuffer_16 : decode cX6_clearBuffer 16 = .ok (.ireturn, 1) := by decide +kernel
theorem dX6_takesDigit_0 : decode cX6_takesDigit 0 = .ok (.aload_n 0, 1) := by decide +kernel
theorem dX6_takesDigit_1 : decode cX6_takesDigit 1 = .ok (.getfield 123, 3) := by decide +kernel
theorem dX6_takesDigit_4 : decode cX6_takesDigit 4 = .ok (.iconst (-1), 1) := by decide +kernel
theorem dX6_takesDigit_5 : decode cX6_takesDigit 5 = .ok (.if_icmp .ne 7, 3) := by decide +kernel
theorem dX6_takesDigit_8 : decode cX6_takesDigit 8 = .ok (.iload_n 1, 1) := by decide +kernel
theorem dX6_takesDigit_9 : decode cX6_takesDigit 9 = .ok (.goto 12, 3) := by decide +kernel
theorem dX6_takesDigit_12 : decode cX6_takesDigit 12 = .ok (.bipush 10, 2) := by decide +kernel
theorem dX6_takesDigit_14 : decode cX6_takesDigit 14 = .ok (.aload_n 0, 1) := by decide +kernel
theorem dX6_takesDigit_15 : decode cX6_takesDigit 15 = .ok (.getfield 123, 3) := by decide +kernel
theorem dX6_takesDigit_18 : decode cX6_takesDigit 18 = .ok (.imul, 1) := by decide +kernel
theorem dX6_takesDigit_19 : decode cX6_takesDigit 19 = .ok (.iload_n 1, 1) := by decide +kernel
theorem dX6_takesDigit_20 : decode cX6_takesDigit 20 = .ok (.iadd, 1) := by decide +kernel
theorem dX6_takesDigit_21 : decode cX6_takesDigit 21 = .ok (.istore_n 2, 1) := by decide +kernel
theorem dX6_takesDigit_22 : decode cX6_takesDigit 22 = .ok (.iload_n 1, 1) := by decide +kernel
theorem dX6_takesDigit_23 : decode cX6_takesDigit 23 = .ok (.iconst 0, 1) := by decide +kernel
theorem dX6_takesDigit_24 : decode cX6_takesDigit 24 = .ok (.bipush 9, 2) := by decide +kernel
theorem dX6_takesDigit_26 : decode cX6_takesDigit 26 = .ok (.invokestatic 32, 3) := by decide +kernel
theorem dX6_takesDigit_29 : decode cX6_takesDigit 29 = .ok (.ifCond .eq 14, 3) := by decide +kernel
theorem dX6_takesDigit_32 : decode cX6_takesDigit 32 = .ok (.iload_n 2, 1) := by decide +kernel
theorem dX6_takesDigit_33 : decode cX6_takesDigit 33 = .ok (.invokestatic 88, 3) := by decide +kernel
theorem dX6_takesDigit_36 : decode cX6_takesDigit 36 = .ok (.ifCond .eq 7, 3) := by decide +kernel
theorem dX6_takesDigit_39 : decode cX6_takesDigit 39 = .ok (.iconst 1, 1) := by decide +kernel
theorem dX6_takesDigit_40 : decode cX6_takesDigit 40 = .ok (.goto 4, 3) := by decide +kernel
theorem dX6_takesDigit_43 : decode cX6_takesDigit 43 = .ok (.iconst 0, 1) := by decide +kernel
theorem dX6_takesDigit_44 : decode cX6_takesDigit 44 = .ok (.istore_n 3, 1) := by decide +kernel
theorem dX6_takesDigit_45 : decode cX6_takesDigit 45 = .ok (.aload_n 0, 1) := by decide +kernel
theorem dX6_takesDigit_46 : decode cX6_takesDigit 46 = .ok (.iload_n 3, 1) := by decide +kernel
theorem dX6_takesDigit_47 : decode cX6_takesDigit 47 = .ok (.ifCond .eq 7, 3) := by decide +kernel
theorem dX6_takesDigit_50 : decode cX6_takesDigit 50 = .ok (.iload_n 2, 1) := by decide +kernel
theorem dX6_takesDigit_51 : decode cX6_takesDigit 51 = .ok (.goto 7, 3) := by decide +kernel
theorem dX6_takesDigit_54 : decode cX6_takesDigit 54 = .ok (.aload_n 0, 1) := by decide +kernel
theorem dX6_takesDigit_55 : decode cX6_takesDigit 55 = .ok (.getfield 123, 3) := by decide +kernel
theorem dX6_takesDigit_58 : decode cX6_takesDigit 58 = .ok (.putfield 123, 3) := by decide +kernel
theorem dX6_takesDigit_61 : decode cX6_takesDigit 61 = .ok (.aload_n 0, 1) := by decide +kernel
theorem dX6_takesDigit_62 : decode cX6_takesDigit 62 = .ok (.getfield 19, 3) := by decide +kernel
theorem dX6_takesDigit_65 : decode cX6_takesDigit 65 = .ok (.iconst 4, 1) := by decide +kernel
theorem dX6_takesDigit_66 : decode cX6_takesDigit 66 = .ok (.aload_n 0, 1) := by decide +kernel
theorem dX6_takesDigit_67 : decode cX6_takesDigit 67 = .ok (.getfield 126, 3) := by decide +kernel
theorem dX6_takesDigit_70 : decode cX6_takesDigit 70 = .ok (.imul, 1) := by decide +kernel
theorem dX6_takesDigit_71 : decode cX6_takesDigit 71 = .ok (.iconst 3, 1) := by decide +kernel
theorem dX6_takesDigit_72 : decode cX6_takesDigit 72 = .ok (.iadd, 1) := by decide +kernel
theorem dX6_takesDigit_73 : decode cX6_takesDigit 73 = .ok (.aload_n 0, 1) := by decide +kernel
theorem dX6_takesDigit_74 : decode cX6_takesDigit 74 = .ok (.getfield 123, 3) := by decide +kernel
theorem dX6_takesDigit_77 : decode cX6_takesDigit 77 = .ok (.iastore, 1) := by decide +kernel
theorem dX6_takesDigit_78 : decode cX6_takesDigit 78 = .ok (.iload_n 3, 1) := by decide +kernel
theorem dX6_takesDigit_79 : decode cX6_takesDigit 79 = .ok (.ireturn, 1) := by decide +kernel
theorem dX6_takesMember_0 : decode cX6_takesMember 0 = .ok (.iconst 4, 1) := by decide +kernel
theorem dX6_takesMember_1 : decode cX6_takesMember 1 = .ok (.aload_n 0, 1) := by decide +kernel
theorem dX6_takesMember_2 : decode cX6_takesMember 2 = .ok (.getfield 126, 3) := by decide +kernel
theorem dX6_takesMember_5 : decode cX6_takesMember 5 = .ok (.imul, 1) := by decide +kernel
theorem dX6_takesMember_6 : decode cX6_takesMember 6 = .ok (.aload_n 0, 1) := by decide +kernel
theorem dX6_takesMember_7 : decode cX6_takesMember 7 = .ok (.getfield 129, 3) := by decide +kernel
theorem dX6_takesMember_10 : decode cX6_takesMember 10 = .ok (.ifCond .ne 7, 3) := by decide +kernel
theorem dX6_takesMember_13 : decode cX6_takesMember 13 = .ok (.iconst 0, 1) := by decide +kernel
theorem dX6_takesMember_14 : decode cX6_takesMember 14 = .ok (.goto 4, 3) := by decide +kernel
theorem dX6_takesMember_17 : decode cX6_takesMember 17 = .ok (.iconst 1, 1) := by decide +kernel
theorem dX6_takesMember_18 : decode cX6_takesMember 18 = .ok (.iadd, 1) := by decide +kernel
theorem dX6_takesMember_19 : decode cX6_takesMember 19 = .ok (.istore_n 2, 1) := by decide +kernel
theorem dX6_takesMember_20 : decode cX6_takesMember 20 = .ok (.aload_n 0, 1) := by decide +kernel
theorem dX6_takesMember_21 : decode cX6_takesMember 21 = .ok (.getfield 19, 3) := by decide +kernel
theorem dX6_takesMember_24 : decode cX6_takesMember 24 = .ok (.iload_n 2, 1) := by decide +kernel
theorem dX6_takesMember_25 : decode cX6_takesMember 25 = .ok (.iload_n 1, 1) := by decide +kernel
theorem dX6_takesMember_26 : decode cX6_takesMember 26 = .ok (.bipush 97, 2) := by decide +kernel
theorem dX6_takesMember_28 : decode cX6_takesMember 28 = .ok (.isub, 1) := by decide +kernel
theorem dX6_takesMember_29 : decode cX6_takesMember 29 = .ok (.iastore, 1) := by decide +kernel
theorem dX6_takesMember_30 : decode cX6_takesMember 30 = .ok (.iload_n 1, 1) := by decide +kernel
theorem dX6_takesMember_31 : decode cX6_takesMember 31 = .ok (.bipush 97, 2) := by decide +kernel
theorem dX6_takesMember_33 : decode cX6_takesMember 33 = .ok (.bipush 104, 2) := by decide +kernel
theorem dX6_takesMember_35 : decode cX6_takesMember 35 = .ok (.invokestatic 32, 3) := by decide +kernel
theorem dX6_takesMember_38 : decode cX6_takesMember 38 = .ok (.ifCond .eq 31, 3) := by decide +kernel
theorem dX6_takesMember_41 : decode cX6_takesMember 41 = .ok (.aload_n 0, 1) := by decide +kernel
theorem dX6_takesMember_42 : decode cX6_takesMember 42 = .ok (.getfield 129, 3) := by decide +kernel
theorem dX6_takesMember_45 : decode cX6_takesMember 45 = .ok (.ifCond .eq 20, 3) := by decide +kernel
theorem dX6_takesMember_48 : decode cX6_takesMember 48 = .ok (.aload_n 0, 1) := by decide +kernel
theorem dX6_takesMember_49 : decode cX6_takesMember 49 = .ok (.getfield 19, 3) := by decide +kernel
theorem dX6_takesMember_52 : decode cX6_takesMember 52 = .ok (.iload_n 2, 1) := by decide +kernel
theorem dX6_takesMember_53 : decode cX6_takesMember 53 = .ok (.iaload, 1) := by decide +kernel
theorem dX6_takesMember_54 : decode cX6_takesMember 54 = .ok (.aload_n 0, 1) := by decide +kernel
theorem dX6_takesMember_55 : decode cX6_takesMember 55 = .ok (.getfield 19, 3) := by decide +kernel
theorem dX6_takesMember_58 : decode cX6_takesMember 58 = .ok (.iload_n 2, 1) := by decide +kernel
theorem dX6_takesMember_59 : decode cX6_takesMember 59 = .ok (.iconst 1, 1) := by decide +kernel
theorem dX6_takesMember_60 : decode cX6_takesMember 60 = .ok (.isub, 1) := by decide +kernel
theorem dX6_takesMember_61 : decode cX6_takesMember 61 = .ok (.iaload, 1) := by decide +kernel
theorem dX6_takesMember_62 : decode cX6_takesMember 62 = .ok (.if_icmp .eq 7, 3) := by decide +kernel
theorem dX6_takesMember_65 : decode cX6_takesMember 65 = .ok (.iconst 1, 1) := by decide +kernel
theorem dX6_takesMember_66 : decode cX6_takesMember 66 = .ok (.goto 4, 3) := by decide +kernel
theorem dX6_takesMember_69 : decode cX6_takesMember 69 = .ok (.iconst 0, 1) := by decide +kernel
theorem dX6_takesMember_70 : decode cX6_takesMember 70 = .ok (.istore_n 3, 1) := by decide +kernel
theorem dX6_takesMember_71 : decode cX6_takesMember 71 = .ok (.aload_n 0, 1) := by decide +kernel
theorem dX6_takesMember_72 : decode cX6_takesMember 72 = .ok (.dup, 1) := by decide +kernel
theorem dX6_takesMember_73 : decode cX6_takesMember 73 = .ok (.getfield 129, 3) := by decide +kernel
theorem dX6_takesMember_76 : decode cX6_takesMember 76 = .ok (.iconst 1, 1) := by decide +kernel
theorem dX6_takesMember_77 : decode cX6_takesMember 77 = .ok (.iadd, 1) := by decide +kernel
theorem dX6_takesMember_78 : decode cX6_takesMember 78 = .ok (.putfield 129, 3) := by decide +kernel
theorem dX6_takesMember_81 : decode cX6_takesMember 81 = .ok (.iload_n 3, 1) := by decide +kernel
theorem dX6_takesMember_82 : decode cX6_takesMember 82 = .ok (.ireturn, 1) := by decide +kernel
theorem dX6_takes_0 : decode cX6_takes 0 = .ok (.aload_n 0, 1) := by decide +kernel
theorem dX6_takes_1 : decode cX6_takes 1 = .ok (.getfield 129, 3) := by decide +kernel
theorem dX6_takes_4 : decode cX6_takes 4 = .ok (.tableswitch 111 0 4 #[36, 42, 36, 59, 89], 36) := by decide +kernel
theorem dX6_takes_40 : decode cX6_takes 40 = .ok (.aload_n 0, 1) := by decide +kernel
theorem dX6_takes_41 : decode cX6_takes 41 = .ok (.iload_n 1, 1) := by decide +kernel
theorem dX6_takes_42 : decode cX6_takes 42 = .ok (.invokevirtual 132, 3) := by decide +kernel
theorem dX6_takes_45 : decode cX6_takes 45 = .ok (.ireturn, 1) := by decide +kernel
theorem dX6_takes_46 : decode cX6_takes 46 = .ok (.aload_n 0, 1) := by decide +kernel
theorem dX6_takes_47 : decode cX6_takes 47 = .ok (.iconst 2, 1) := by decide +kernel
theorem dX6_takes_48 : decode cX6_takes 48 = .ok (.putfield 129, 3) := by decide +kernel
theorem dX6_takes_51 : decode cX6_takes 51 = .ok (.iload_n 1, 1) := by decide +kernel
theorem dX6_takes_52 : decode cX6_takes 52 = .ok (.bipush 62, 2) := by decide +kernel
theorem dX6_takes_54 : decode cX6_takes 54 = .ok (.if_icmp .ne 7, 3) := by decide +kernel
theorem dX6_takes_57 : decode cX6_takes 57 = .ok (.iconst 1, 1) := by decide +kernel
theorem dX6_takes_58 : decode cX6_takes 58 = .ok (.goto 4, 3) := by decide +kernel
theorem dX6_takes_61 : decode cX6_takes 61 = .ok (.iconst 0, 1) := by decide +kernel
theorem dX6_takes_62 : decode cX6_takes 62 = .ok (.ireturn, 1) := by decide +kernel
theorem dX6_takes_63 : decode cX6_takes 63 = .ok (.aload_n 0, 1) := by decide +kernel
theorem dX6_takes_64 : decode cX6_takes 64 = .ok (.getfield 19, 3) := by decide +kernel
theorem dX6_takes_67 : decode cX6_takes 67 = .ok (.iconst 4, 1) := by decide +kernel
theorem dX6_takes_68 : decode cX6_takes 68 = .ok (.aload_n 0, 1) := by decide +kernel
theorem dX6_takes_69 : decode cX6_takes 69 = .ok (.getfield 126, 3) := by decide +kernel
theorem dX6_takes_72 : decode cX6_takes 72 = .ok (.imul, 1) := by decide +kernel
theorem dX6_takes_73 : decode cX6_takes 73 = .ok (.iconst 2, 1) := by decide +kernel
theorem dX6_takes_74 : decode cX6_takes 74 = .ok (.iadd, 1) := by decide +kernel
theorem dX6_takes_75 : decode cX6_takes 75 = .ok (.iload_n 1, 1) := by decide +kernel
theorem dX6_takes_76 : decode cX6_takes 76 = .ok (.bipush 48, 2) := by decide +kernel
theorem dX6_takes_78 : decode cX6_takes 78 = .ok (.isub, 1) := by decide +kernel
theorem dX6_takes_79 : decode cX6_takes 79 = .ok (.iastore, 1) := by decide +kernel
theorem dX6_takes_80 : decode cX6_takes 80 = .ok (.aload_n 0, 1) := by decide +kernel
theorem dX6_takes_81 : decode cX6_takes 81 = .ok (.iconst 4, 1) := by decide +kernel
theorem dX6_takes_82 : decode cX6_takes 82 = .ok (.putfield 129, 3) := by decide +kernel
theorem dX6_takes_85 : decode cX6_takes 85 = .ok (.iload_n 1, 1) := by decide +kernel
theorem dX6_takes_86 : decode cX6_takes 86 = .ok (.bipush 48, 2) := by decide +kernel
theorem dX6_takes_88 : decode cX6_takes 88 = .ok (.isub, 1) := by decide +kernel
theorem dX6_takes_89 : decode cX6_takes 89 = .ok (.invokestatic 85, 3) := by decide +kernel
theorem dX6_takes_92 : decode cX6_takes 92 = .ok (.ireturn, 1) := by decide +kernel
theorem dX6_takes_93 : decode cX6_takes 93 = .ok (.aload_n 0, 1) := by decide +kernel
theorem dX6_takes_94 : decode cX6_takes 94 = .ok (.iconst (-1), 1) := by decide +kernel
theorem dX6_takes_95 : decode cX6_takes 95 = .ok (.putfield 123, 3) := by decide +kernel
theorem dX6_takes_98 : decode cX6_takes 98 = .ok (.aload_n 0, 1) := by decide +kernel
theorem dX6_takes_99 : decode cX6_takes 99 = .ok (.iconst 5, 1) := by decide +kernel
theorem dX6_takes_100 : decode cX6_takes 100 = .ok (.putfield 129, 3) := by decide +kernel
theorem dX6_takes_103 : decode cX6_takes 103 = .ok (.iload_n 1, 1) := by decide +kernel
theorem dX6_takes_104 : decode cX6_takes 104 = .ok (.bipush 58, 2) := by decide +kernel
theorem dX6_takes_106 : decode cX6_takes 106 = .ok (.if_icmp .ne 7, 3) := by decide +kernel
theorem dX6_takes_109 : decode cX6_takes 109 = .ok (.iconst 1, 1) := by decide +kernel
theorem dX6_takes_110 : decode cX6_takes 110 = .ok (.goto 4, 3) := by decide +kernel
theorem dX6_takes_113 : decode cX6_takes 113 = .ok (.iconst 0, 1) := by decide +kernel
theorem dX6_takes_114 : decode cX6_takes 114 = .ok (.ireturn, 1) := by decide +kernel
theorem dX6_takes_115 : decode cX6_takes 115 = .ok (.iload_n 1, 1) := by decide +kernel
theorem dX6_takes_116 : decode cX6_takes 116 = .ok (.bipush 59, 2) := by decide +kernel
theorem dX6_takes_118 : decode cX6_takes 118 = .ok (.if_icmp .ne 28, 3) := by decide +kernel
theorem dX6_takes_121 : decode cX6_takes 121 = .ok (.aload_n 0, 1) := by decide +kernel
theorem dX6_takes_122 : decode cX6_takes 122 = .ok (.getfield 123, 3) := by decide +kernel
theorem dX6_takes_125 : decode cX6_takes 125 = .ok (.iconst (-1), 1) := by decide +kernel
theorem dX6_takes_126 : decode cX6_takes 126 = .ok (.if_icmp .eq 20, 3) := by decide +kernel
theorem dX6_takes_129 : decode cX6_takes 129 = .ok (.aload_n 0, 1) := by decide +kernel
theorem dX6_takes_130 : decode cX6_takes 130 = .ok (.dup, 1) := by decide +kernel
theorem dX6_takes_131 : decode cX6_takes 131 = .ok (.getfield 126, 3) := by decide +kernel
theorem dX6_takes_134 : decode cX6_takes 134 = .ok (.iconst 1, 1) := by decide +kernel
theorem dX6_takes_135 : decode cX6_takes 135 = .ok (.iadd, 1) := by decide +kernel
theorem dX6_takes_136 : decode cX6_takes 136 = .ok (.putfield 126, 3) := by decide +kernel
theorem dX6_takes_139 : decode cX6_takes 139 = .ok (.aload_n 0, 1) := by decide +kernel
theorem dX6_takes_140 : decode cX6_takes 140 = .ok (.iconst 0, 1) := by decide +kernel
theorem dX6_takes_141 : decode cX6_takes 141 = .ok (.putfield 129, 3) := by decide +kernel
theorem dX6_takes_144 : decode cX6_takes 144 = .ok (.iconst 1, 1) := by decide +kernel
theorem dX6_takes_145 : decode cX6_takes 145 = .ok (.ireturn, 1) := by decide +kernel
theorem dX6_takes_146 : decode cX6_takes 146 = .ok (.aload_n 0, 1) := by decide +kernel
theorem dX6_takes_147 : decode cX6_takes 147 = .ok (.iload_n 1, 1) := by decide +kernel
theorem dX6_takes_148 : decode cX6_takes 148 = .ok (.bipush 48, 2) := by decide +kernel
theorem dX6_takes_150 : decode cX6_takes 150 = .ok (.isub, 1) := by decide +kernel
theorem dX6_takes_151 : decode cX6_takes 151 = .ok (.invokevirtual 135, 3) := by decide +kernel
theorem dX6_takes_154 : decode cX6_takes 154 = .ok (.ireturn, 1) := by decide +kernel
theorem dX6_rightUpTo_0 : decode cX6_rightUpTo 0 = .ok (.aload_n 0, 1) := by decide +kernel
theorem dX6_rightUpTo_1 : decode cX6_rightUpTo 1 = .ok (.iconst 0, 1) := by decide +kernel
theorem dX6_rightUpTo_2 : decode cX6_rightUpTo 2 = .ok (.putfield 126, 3) := by decide +kernel
theorem dX6_rightUpTo_5 : decode cX6_rightUpTo 5 = .ok (.aload_n 0, 1) := by decide +kernel
theorem dX6_rightUpTo_6 : decode cX6_rightUpTo 6 = .ok (.iconst 0, 1) := by decide +kernel
theorem dX6_rightUpTo_7 : decode cX6_rightUpTo 7 = .ok (.putfield 129, 3) := by decide +kernel
theorem dX6_rightUpTo_10 : decode cX6_rightUpTo 10 = .ok (.iconst 0, 1) := by decide +kernel
theorem dX6_rightUpTo_11 : decode cX6_rightUpTo 11 = .ok (.istore_n 1, 1) := by decide +kernel
theorem dX6_rightUpTo_12 : decode cX6_rightUpTo 12 = .ok (.iload_n 1, 1) := by decide +kernel
theorem dX6_rightUpTo_13 : decode cX6_rightUpTo 13 = .ok (.aload_n 0, 1) := by decide +kernel
theorem dX6_rightUpTo_14 : decode cX6_rightUpTo 14 = .ok (.getfield 120, 3) := by decide +kernel
theorem dX6_rightUpTo_17 : decode cX6_rightUpTo 17 = .ok (.if_icmp .ge 22, 3) := by decide +kernel
theorem dX6_rightUpTo_20 : decode cX6_rightUpTo 20 = .ok (.aload_n 0, 1) := by decide +kernel
theorem dX6_rightUpTo_21 : decode cX6_rightUpTo 21 = .ok (.aload_n 0, 1) := by decide +kernel
theorem dX6_rightUpTo_22 : decode cX6_rightUpTo 22 = .ok (.getfield 16, 3) := by decide +kernel
theorem dX6_rightUpTo_25 : decode cX6_rightUpTo 25 = .ok (.iload_n 1, 1) := by decide +kernel
theorem dX6_rightUpTo_26 : decode cX6_rightUpTo 26 = .ok (.iaload, 1) := by decide +kernel
theorem dX6_rightUpTo_27 : decode cX6_rightUpTo 27 = .ok (.invokevirtual 138, 3) := by decide +kernel
theorem dX6_rightUpTo_30 : decode cX6_rightUpTo 30 = .ok (.ifCond .eq 9, 3) := by decide +kernel
theorem dX6_rightUpTo_33 : decode cX6_rightUpTo 33 = .ok (.iinc 1 1, 3) := by decide +kernel
theorem dX6_rightUpTo_36 : decode cX6_rightUpTo 36 = .ok (.goto (-24), 3) := by decide +kernel
theorem dX6_rightUpTo_39 : decode cX6_rightUpTo 39 = .ok (.iload_n 1, 1) := by decide +kernel
theorem dX6_rightUpTo_40 : decode cX6_rightUpTo 40 = .ok (.ireturn, 1) := by decide +kernel
theorem dX6_firstError_0 : decode cX6_firstError 0 = .ok (.aload_n 0, 1) := by decide +kernel
theorem dX6_firstError_1 : decode cX6_firstError 1 = .ok (.iconst 0, 1) := by decide +kernel
theorem dX6_firstError_2 : decode cX6_firstError 2 = .ok (.putfield 25, 3) := by decide +kernel
theorem dX6_firstError_5 : decode cX6_firstError 5 = .ok (.aload_n 0, 1) := by decide +kernel
theorem dX6_firstError_6 : decode cX6_firstError 6 = .ok (.invokevirtual 141, 3) := by decide +kernel
theorem dX6_firstError_9 : decode cX6_firstError 9 = .ok (.ireturn, 1) := by decide +kernel
theorem dX6_makes_0 : decode cX6_makes 0 = .ok (.iconst 4, 1) := by decide +kernel
theorem dX6_makes_1 : decode cX6_makes 1 = .ok (.iload_n 1, 1) := by decide +kernel
theorem dX6_makes_2 : decode cX6_makes 2 = .ok (.imul, 1) := by decide +kernel
theorem dX6_makes_3 : decode cX6_makes 3 = .ok (.istore_n 2, 1) := by decide +kernel
theorem dX6_makes_4 : decode cX6_makes 4 = .ok (.aload_n 0, 1) := by decide +kernel
theorem dX6_makes_5 : decode cX6_makes 5 = .ok (.aload_n 0, 1) := by decide +kernel
theorem dX6_makes_6 : decode cX6_makes 6 = .ok (.getfield 19, 3) := by decide +kernel
theorem dX6_makes_9 : decode cX6_makes 9 = .ok (.iload_n 2, 1) := by decide +kernel
theorem dX6_makes_10 : decode cX6_makes 10 = .ok (.iaload, 1) := by decide +kernel
theorem dX6_makes_11 : decode cX6_makes 11 = .ok (.invokevirtual 64, 3) := by decide +kernel
theorem dX6_makes_14 : decode cX6_makes 14 = .ok (.ifCond .eq 59, 3) := by decide +kernel
theorem dX6_makes_17 : decode cX6_makes 17 = .ok (.aload_n 0, 1) := by decide +kernel
theorem dX6_makes_18 : decode cX6_makes 18 = .ok (.aload_n 0, 1) := by decide +kernel
theorem dX6_makes_19 : decode cX6_makes 19 = .ok (.getfield 19, 3) := by decide +kernel
theorem dX6_makes_22 : decode cX6_makes 22 = .ok (.iload_n 2, 1) := by decide +kernel
theorem dX6_makes_23 : decode cX6_makes 23 = .ok (.iconst 1, 1) := by decide +kernel
theorem dX6_makes_24 : decode cX6_makes 24 = .ok (.iadd, 1) := by decide +kernel
theorem dX6_makes_25 : decode cX6_makes 25 = .ok (.iaload, 1) := by decide +kernel
theorem dX6_makes_26 : decode cX6_makes 26 = .ok (.invokevirtual 64, 3) := by decide +kernel
theorem dX6_makes_29 : decode cX6_makes 29 = .ok (.ifCond .eq 44, 3) := by decide +kernel
theorem dX6_makes_32 : decode cX6_makes 32 = .ok (.aload_n 0, 1) := by decide +kernel
theorem dX6_makes_33 : decode cX6_makes 33 = .ok (.aload_n 0, 1) := by decide +kernel
theorem dX6_makes_34 : decode cX6_makes 34 = .ok (.getfield 19, 3) := by decide +kernel
theorem dX6_makes_37 : decode cX6_makes 37 = .ok (.iload_n 2, 1) := by decide +kernel
theorem dX6_makes_38 : decode cX6_makes 38 = .ok (.iaload, 1) := by decide +kernel
theorem dX6_makes_39 : decode cX6_makes 39 = .ok (.aload_n 0, 1) := by decide +kernel
theorem dX6_makes_40 : decode cX6_makes 40 = .ok (.getfield 19, 3) := by decide +kernel
theorem dX6_makes_43 : decode cX6_makes 43 = .ok (.iload_n 2, 1) := by decide +kernel
theorem dX6_makes_44 : decode cX6_makes 44 = .ok (.iconst 1, 1) := by decide +kernel
theorem dX6_makes_45 : decode cX6_makes 45 = .ok (.iadd, 1) := by decide +kernel
theorem dX6_makes_46 : decode cX6_makes 46 = .ok (.iaload, 1) := by decide +kernel
theorem dX6_makes_47 : decode cX6_makes 47 = .ok (.aload_n 0, 1) := by decide +kernel
theorem dX6_makes_48 : decode cX6_makes 48 = .ok (.getfield 19, 3) := by decide +kernel
theorem dX6_makes_51 : decode cX6_makes 51 = .ok (.iload_n 2, 1) := by decide +kernel
theorem dX6_makes_52 : decode cX6_makes 52 = .ok (.iconst 2, 1) := by decide +kernel
theorem dX6_makes_53 : decode cX6_makes 53 = .ok (.iadd, 1) := by decide +kernel
theorem dX6_makes_54 : decode cX6_makes 54 = .ok (.iaload, 1) := by decide +kernel
theorem dX6_makes_55 : decode cX6_makes 55 = .ok (.aload_n 0, 1) := by decide +kernel
theorem dX6_makes_56 : decode cX6_makes 56 = .ok (.getfield 19, 3) := by decide +kernel
theorem dX6_makes_59 : decode cX6_makes 59 = .ok (.iload_n 2, 1) := by decide +kernel
theorem dX6_makes_60 : decode cX6_makes 60 = .ok (.iconst 3, 1) := by decide +kernel
theorem dX6_makes_61 : decode cX6_makes 61 = .ok (.iadd, 1) := by decide +kernel
theorem dX6_makes_62 : decode cX6_makes 62 = .ok (.iaload, 1) := by decide +kernel
theorem dX6_makes_63 : decode cX6_makes 63 = .ok (.invokevirtual 91, 3) := by decide +kernel
theorem dX6_makes_66 : decode cX6_makes 66 = .ok (.ifCond .eq 7, 3) := by decide +kernel
theorem dX6_makes_69 : decode cX6_makes 69 = .ok (.iconst 1, 1) := by decide +kernel
theorem dX6_makes_70 : decode cX6_makes 70 = .ok (.goto 4, 3) := by decide +kernel
theorem dX6_makes_73 : decode cX6_makes 73 = .ok (.iconst 0, 1) := by decide +kernel
theorem dX6_makes_74 : decode cX6_makes 74 = .ok (.istore_n 3, 1) := by decide +kernel
theorem dX6_makes_75 : decode cX6_makes 75 = .ok (.iload_n 3, 1) := by decide +kernel
theorem dX6_makes_76 : decode cX6_makes 76 = .ok (.ifCond .eq 40, 3) := by decide +kernel
theorem dX6_makes_79 : decode cX6_makes 79 = .ok (.aload_n 0, 1) := by decide +kernel
theorem dX6_makes_80 : decode cX6_makes 80 = .ok (.aload_n 0, 1) := by decide +kernel
theorem dX6_makes_81 : decode cX6_makes 81 = .ok (.getfield 19, 3) := by decide +kernel
theorem dX6_makes_84 : decode cX6_makes 84 = .ok (.iload_n 2, 1) := by decide +kernel
theorem dX6_makes_85 : decode cX6_makes 85 = .ok (.iaload, 1) := by decide +kernel
theorem dX6_makes_86 : decode cX6_makes 86 = .ok (.aload_n 0, 1) := by decide +kernel
theorem dX6_makes_87 : decode cX6_makes 87 = .ok (.getfield 19, 3) := by decide +kernel
theorem dX6_makes_90 : decode cX6_makes 90 = .ok (.iload_n 2, 1) := by decide +kernel
theorem dX6_makes_91 : decode cX6_makes 91 = .ok (.iconst 1, 1) := by decide +kernel
theorem dX6_makes_92 : decode cX6_makes 92 = .ok (.iadd, 1) := by decide +kernel
theorem dX6_makes_93 : decode cX6_makes 93 = .ok (.iaload, 1) := by decide +kernel
theorem dX6_makes_94 : decode cX6_makes 94 = .ok (.aload_n 0, 1) := by decide +kernel
theorem dX6_makes_95 : decode cX6_makes 95 = .ok (.getfield 19, 3) := by decide +kernel
theorem dX6_makes_98 : decode cX6_makes 98 = .ok (.iload_n 2, 1) := by decide +kernel
theorem dX6_makes_99 : decode cX6_makes 99 = .ok (.iconst 2, 1) := by decide +kernel
theorem dX6_makes_100 : decode cX6_makes 100 = .ok (.iadd, 1) := by decide +kernel
theorem dX6_makes_101 : decode cX6_makes 101 = .ok (.iaload, 1) := by decide +kernel
theorem dX6_makes_102 : decode cX6_makes 102 = .ok (.aload_n 0, 1) := by decide +kernel
theorem dX6_makes_103 : decode cX6_makes 103 = .ok (.getfield 19, 3) := by decide +kernel
theorem dX6_makes_106 : decode cX6_makes 106 = .ok (.iload_n 2, 1) := by decide +kernel
theorem dX6_makes_107 : decode cX6_makes 107 = .ok (.iconst 3, 1) := by decide +kernel
theorem dX6_makes_108 : decode cX6_makes 108 = .ok (.iadd, 1) := by decide +kernel
theorem dX6_makes_109 : decode cX6_makes 109 = .ok (.iaload, 1) := by decide +kernel
theorem dX6_makes_110 : decode cX6_makes 110 = .ok (.invokevirtual 95, 3) := by decide +kernel
theorem dX6_makes_113 : decode cX6_makes 113 = .ok (.goto 4, 3) := by decide +kernel
theorem dX6_makes_116 : decode cX6_makes 116 = .ok (.iconst 0, 1) := by decide +kernel
theorem dX6_makes_117 : decode cX6_makes 117 = .ok (.istore 4, 2) := by decide +kernel
theorem dX6_makes_119 : decode cX6_makes 119 = .ok (.iload_n 3, 1) := by decide +kernel
theorem dX6_makes_120 : decode cX6_makes 120 = .ok (.ireturn, 1) := by decide +kernel
theorem dX6_run_0 : decode cX6_run 0 = .ok (.aload_n 0, 1) := by decide +kernel
theorem dX6_run_1 : decode cX6_run 1 = .ok (.invokevirtual 141, 3) := by decide +kernel
theorem dX6_run_4 : decode cX6_run 4 = .ok (.aload_n 0, 1) := by decide +kernel
theorem dX6_run_5 : decode cX6_run 5 = .ok (.getfield 120, 3) := by decide +kernel
theorem dX6_run_8 : decode cX6_run 8 = .ok (.if_icmp .ne 23, 3) := by decide +kernel
theorem dX6_run_11 : decode cX6_run 11 = .ok (.aload_n 0, 1) := by decide +kernel
theorem dX6_run_12 : decode cX6_run 12 = .ok (.getfield 129, 3) := by decide +kernel
theorem dX6_run_15 : decode cX6_run 15 = .ok (.iconst 5, 1) := by decide +kernel
theorem dX6_run_16 : decode cX6_run 16 = .ok (.if_icmp .ne 15, 3) := by decide +kernel
theorem dX6_run_19 : decode cX6_run 19 = .ok (.aload_n 0, 1) := by decide +kernel
theorem dX6_run_20 : decode cX6_run 20 = .ok (.getfield 123, 3) := by decide +kernel
theorem dX6_run_23 : decode cX6_run 23 = .ok (.iconst (-1), 1) := by decide +kernel
theorem dX6_run_24 : decode cX6_run 24 = .ok (.if_icmp .eq 7, 3) := by decide +kernel
theorem dX6_run_27 : decode cX6_run 27 = .ok (.iconst 1, 1) := by decide +kernel
theorem dX6_run_28 : decode cX6_run 28 = .ok (.goto 4, 3) := by decide +kernel
theorem dX6_run_31 : decode cX6_run 31 = .ok (.iconst 0, 1) := by decide +kernel
theorem dX6_run_32 : decode cX6_run 32 = .ok (.istore_n 1, 1) := by decide +kernel
theorem dX6_run_33 : decode cX6_run 33 = .ok (.aload_n 0, 1) := by decide +kernel
theorem dX6_run_34 : decode cX6_run 34 = .ok (.iload_n 1, 1) := by decide +kernel
theorem dX6_run_35 : decode cX6_run 35 = .ok (.ifCond .eq 7, 3) := by decide +kernel
theorem dX6_run_38 : decode cX6_run 38 = .ok (.iconst 0, 1) := by decide +kernel
theorem dX6_run_39 : decode cX6_run 39 = .ok (.goto 4, 3) := by decide +kernel
theorem dX6_run_42 : decode cX6_run 42 = .ok (.iconst 1, 1) := by decide +kernel
theorem dX6_run_43 : decode cX6_run 43 = .ok (.putfield 25, 3) := by decide +kernel
theorem dX6_run_46 : decode cX6_run 46 = .ok (.aload_n 0, 1) := by decide +kernel
theorem dX6_run_47 : decode cX6_run 47 = .ok (.getfield 25, 3) := by decide +kernel
theorem dX6_run_50 : decode cX6_run 50 = .ok (.ifCond .le 5, 3) := by decide +kernel
theorem dX6_run_53 : decode cX6_run 53 = .ok (.iconst 0, 1) := by decide +kernel
theorem dX6_run_54 : decode cX6_run 54 = .ok (.ireturn, 1) := by decide +kernel
theorem dX6_run_55 : decode cX6_run 55 = .ok (.aload_n 0, 1) := by decide +kernel
theorem dX6_run_56 : decode cX6_run 56 = .ok (.invokevirtual 58, 3) := by decide +kernel
theorem dX6_run_59 : decode cX6_run 59 = .ok (.aload_n 0, 1) := by decide +kernel
theorem dX6_run_60 : decode cX6_run 60 = .ok (.iconst 0, 1) := by decide +kernel
theorem dX6_run_61 : decode cX6_run 61 = .ok (.putfield 120, 3) := by decide +kernel
theorem dX6_run_64 : decode cX6_run 64 = .ok (.iconst 0, 1) := by decide +kernel
theorem dX6_run_65 : decode cX6_run 65 = .ok (.istore_n 2, 1) := by decide +kernel
theorem dX6_run_66 : decode cX6_run 66 = .ok (.iload_n 2, 1) := by decide +kernel
theorem dX6_run_67 : decode cX6_run 67 = .ok (.aload_n 0, 1) := by decide +kernel
theorem dX6_run_68 : decode cX6_run 68 = .ok (.getfield 126, 3) := by decide +kernel
theorem dX6_run_71 : decode cX6_run 71 = .ok (.if_icmp .gt 17, 3) := by decide +kernel
theorem dX6_run_74 : decode cX6_run 74 = .ok (.aload_n 0, 1) := by decide +kernel
theorem dX6_run_75 : decode cX6_run 75 = .ok (.iload_n 2, 1) := by decide +kernel
theorem dX6_run_76 : decode cX6_run 76 = .ok (.invokevirtual 144, 3) := by decide +kernel
theorem dX6_run_79 : decode cX6_run 79 = .ok (.ifCond .eq 9, 3) := by decide +kernel
theorem dX6_run_82 : decode cX6_run 82 = .ok (.iinc 2 1, 3) := by decide +kernel
theorem dX6_run_85 : decode cX6_run 85 = .ok (.goto (-19), 3) := by decide +kernel
theorem dX6_run_88 : decode cX6_run 88 = .ok (.iload_n 2, 1) := by decide +kernel
theorem dX6_run_89 : decode cX6_run 89 = .ok (.ireturn, 1) := by decide +kernel
theorem dX6_undo_0 : decode cX6_undo 0 = .ok (.aload_n 0, 1) := by decide +kernel
theorem dX6_undo_1 : decode cX6_undo 1 = .ok (.aload_n 0, 1) := by decide +kernel
theorem dX6_undo_2 : decode cX6_undo 2 = .ok (.getfield 29, 3) := by decide +kernel
theorem dX6_undo_5 : decode cX6_undo 5 = .ok (.ifCond .le 7, 3) := by decide +kernel
theorem dX6_undo_8 : decode cX6_undo 8 = .ok (.iconst 0, 1) := by decide +kernel
theorem dX6_undo_9 : decode cX6_undo 9 = .ok (.goto 4, 3) := by decide +kernel
theorem dX6_undo_12 : decode cX6_undo 12 = .ok (.iconst 1, 1) := by decide +kernel
theorem dX6_undo_13 : decode cX6_undo 13 = .ok (.putfield 25, 3) := by decide +kernel
theorem dX6_undo_16 : decode cX6_undo 16 = .ok (.aload_n 0, 1) := by decide +kernel
theorem dX6_undo_17 : decode cX6_undo 17 = .ok (.getfield 25, 3) := by decide +kernel
theorem dX6_undo_20 : decode cX6_undo 20 = .ok (.ifCond .le 5, 3) := by decide +kernel
theorem dX6_undo_23 : decode cX6_undo 23 = .ok (.iconst 0, 1) := by decide +kernel
theorem dX6_undo_24 : decode cX6_undo 24 = .ok (.ireturn, 1) := by decide +kernel
theorem dX6_undo_25 : decode cX6_undo 25 = .ok (.aload_n 0, 1) := by decide +kernel
theorem dX6_undo_26 : decode cX6_undo 26 = .ok (.dup, 1) := by decide +kernel
theorem dX6_undo_27 : decode cX6_undo 27 = .ok (.getfield 29, 3) := by decide +kernel
theorem dX6_undo_30 : decode cX6_undo 30 = .ok (.iconst 1, 1) := by decide +kernel
theorem dX6_undo_31 : decode cX6_undo 31 = .ok (.isub, 1) := by decide +kernel
theorem dX6_undo_32 : decode cX6_undo 32 = .ok (.putfield 29, 3) := by decide +kernel
theorem dX6_undo_35 : decode cX6_undo 35 = .ok (.iconst 0, 1) := by decide +kernel
theorem dX6_undo_36 : decode cX6_undo 36 = .ok (.istore_n 1, 1) := by decide +kernel
theorem dX6_undo_37 : decode cX6_undo 37 = .ok (.iload_n 1, 1) := by decide +kernel
theorem dX6_undo_38 : decode cX6_undo 38 = .ok (.sipush 142, 3) := by decide +kernel
theorem dX6_undo_41 : decode cX6_undo 41 = .ok (.if_icmp .ge 30, 3) := by decide +kernel
theorem dX6_undo_44 : decode cX6_undo 44 = .ok (.aload_n 0, 1) := by decide +kernel
theorem dX6_undo_45 : decode cX6_undo 45 = .ok (.getfield 7, 3) := by decide +kernel
theorem dX6_undo_48 : decode cX6_undo 48 = .ok (.iload_n 1, 1) := by decide +kernel
theorem dX6_undo_49 : decode cX6_undo 49 = .ok (.aload_n 0, 1) := by decide +kernel
theorem dX6_undo_50 : decode cX6_undo 50 = .ok (.getfield 13, 3) := by decide +kernel
theorem dX6_undo_53 : decode cX6_undo 53 = .ok (.sipush 142, 3) := by decide +kernel
theorem dX6_undo_56 : decode cX6_undo 56 = .ok (.aload_n 0, 1) := by decide +kernel
theorem dX6_undo_57 : decode cX6_undo 57 = .ok (.getfield 29, 3) := by decide +kernel
theorem dX6_undo_60 : decode cX6_undo 60 = .ok (.imul, 1) := by decide +kernel
theorem dX6_undo_61 : decode cX6_undo 61 = .ok (.iload_n 1, 1) := by decide +kernel
theorem dX6_undo_62 : decode cX6_undo 62 = .ok (.iadd, 1) := by decide +kernel
theorem dX6_undo_63 : decode cX6_undo 63 = .ok (.iaload, 1) := by decide +kernel
theorem dX6_undo_64 : decode cX6_undo 64 = .ok (.iastore, 1) := by decide +kernel
theorem dX6_undo_65 : decode cX6_undo 65 = .ok (.iinc 1 1, 3) := by decide +kernel
theorem dX6_undo_68 : decode cX6_undo 68 = .ok (.goto (-31), 3) := by decide +kernel
theorem dX6_undo_71 : decode cX6_undo 71 = .ok (.aload_n 0, 1) := by decide +kernel
theorem dX6_undo_72 : decode cX6_undo 72 = .ok (.getfield 29, 3) := by decide +kernel
theorem dX6_undo_75 : decode cX6_undo 75 = .ok (.ireturn, 1) := by decide +kernel
theorem dX6_memberNow_0 : decode cX6_memberNow 0 = .ok (.iload_n 2, 1) := by decide +kernel
theorem dX6_memberNow_1 : decode cX6_memberNow 1 = .ok (.bipush 11, 2) := by decide +kernel
theorem dX6_memberNow_3 : decode cX6_memberNow 3 = .ok (.if_icmp .ge 12, 3) := by decide +kernel
theorem dX6_memberNow_6 : decode cX6_memberNow 6 = .ok (.aload_n 0, 1) := by decide +kernel
theorem dX6_memberNow_7 : decode cX6_memberNow 7 = .ok (.iload_n 1, 1) := by decide +kernel
theorem dX6_memberNow_8 : decode cX6_memberNow 8 = .ok (.iload_n 2, 1) := by decide +kernel
theorem dX6_memberNow_9 : decode cX6_memberNow 9 = .ok (.invokevirtual 36, 3) := by decide +kernel
theorem dX6_memberNow_12 : decode cX6_memberNow 12 = .ok (.goto 16, 3) := by decide +kernel
theorem dX6_memberNow_15 : decode cX6_memberNow 15 = .ok (.aload_n 0, 1) := by decide +kernel
theorem dX6_memberNow_16 : decode cX6_memberNow 16 = .ok (.iload_n 1, 1) := by decide +kernel
theorem dX6_memberNow_17 : decode cX6_memberNow 17 = .ok (.invokevirtual 117, 3) := by decide +kernel
theorem dX6_memberNow_20 : decode cX6_memberNow 20 = .ok (.ifCond .eq 7, 3) := by decide +kernel
theorem dX6_memberNow_23 : decode cX6_memberNow 23 = .ok (.iconst 1, 1) := by decide +kernel
theorem dX6_memberNow_24 : decode cX6_memberNow 24 = .ok (.goto 4, 3) := by decide +kernel
theorem dX6_memberNow_27 : decode cX6_memberNow 27 = .ok (.iconst 0, 1) := by decide +kernel
theorem dX6_memberNow_28 : decode cX6_memberNow 28 = .ok (.ireturn, 1) := by decide +kernel
theorem dX6_member_0 : decode cX6_member 0 = .ok (.aload_n 0, 1) := by decide +kernel
theorem dX6_member_1 : decode cX6_member 1 = .ok (.aload_n 0, 1) := by decide +kernel
theorem dX6_member_2 : decode cX6_member 2 = .ok (.iload_n 1, 1) := by decide +kernel
theorem dX6_member_3 : decode cX6_member 3 = .ok (.invokevirtual 64, 3) := by decide +kernel
theorem dX6_member_6 : decode cX6_member 6 = .ok (.ifCond .ne 7, 3) := by decide +kernel
theorem dX6_member_9 : decode cX6_member 9 = .ok (.iconst 1, 1) := by decide +kernel
theorem dX6_member_10 : decode cX6_member 10 = .ok (.goto 18, 3) := by decide +kernel
theorem dX6_member_13 : decode cX6_member 13 = .ok (.iload_n 2, 1) := by decide +kernel
theorem dX6_member_14 : decode cX6_member 14 = .ok (.iconst 0, 1) := by decide +kernel
theorem dX6_member_15 : decode cX6_member 15 = .ok (.bipush 11, 2) := by decide +kernel
theorem dX6_member_17 : decode cX6_member 17 = .ok (.invokestatic 32, 3) := by decide +kernel
theorem dX6_member_20 : decode cX6_member 20 = .ok (.ifCond .eq 7, 3) := by decide +kernel
theorem dX6_member_23 : decode cX6_member 23 = .ok (.iconst 0, 1) := by decide +kernel
theorem dX6_member_24 : decode cX6_member 24 = .ok (.goto 4, 3) := by decide +kernel
theorem dX6_member_27 : decode cX6_member 27 = .ok (.iconst 2, 1) := by decide +kernel
theorem dX6_member_28 : decode cX6_member 28 = .ok (.putfield 25, 3) := by decide +kernel
theorem dX6_member_31 : decode cX6_member 31 = .ok (.aload_n 0, 1) := by decide +kernel
theorem dX6_member_32 : decode cX6_member 32 = .ok (.getfield 25, 3) := by decide +kernel
theorem dX6_member_35 : decode cX6_member 35 = .ok (.ifCond .le 7, 3) := by decide +kernel
theorem dX6_member_38 : decode cX6_member 38 = .ok (.iconst 0, 1) := by decide +kernel
theorem dX6_member_39 : decode cX6_member 39 = .ok (.goto 9, 3) := by decide +kernel
theorem dX6_member_42 : decode cX6_member 42 = .ok (.aload_n 0, 1) := by decide +kernel
theorem dX6_member_43 : decode cX6_member 43 = .ok (.iload_n 1, 1) := by decide +kernel
theorem dX6_member_44 : decode cX6_member 44 = .ok (.iload_n 2, 1) := by decide +kernel
theorem dX6_member_45 : decode cX6_member 45 = .ok (.invokevirtual 147, 3) := by decide +kernel
theorem dX6_member_48 : decode cX6_member 48 = .ok (.ireturn, 1) := by decide +kernel
theorem dX6_skillNow_0 : decode cX6_skillNow 0 = .ok (.iload_n 3, 1) := by decide +kernel
theorem dX6_skillNow_1 : decode cX6_skillNow 1 = .ok (.ifCond .ne 15, 3) := by decide +kernel
theorem dX6_skillNow_4 : decode cX6_skillNow 4 = .ok (.aload_n 0, 1) := by decide +kernel
theorem dX6_skillNow_5 : decode cX6_skillNow 5 = .ok (.iload_n 1, 1) := by decide +kernel
theorem dX6_skillNow_6 : decode cX6_skillNow 6 = .ok (.bipush 11, 2) := by decide +kernel
theorem dX6_skillNow_8 : decode cX6_skillNow 8 = .ok (.iload_n 2, 1) := by decide +kernel
theorem dX6_skillNow_9 : decode cX6_skillNow 9 = .ok (.iadd, 1) := by decide +kernel
theorem dX6_skillNow_10 : decode cX6_skillNow 10 = .ok (.invokevirtual 36, 3) := by decide +kernel
theorem dX6_skillNow_13 : decode cX6_skillNow 13 = .ok (.goto 9, 3) := by decide +kernel
theorem dX6_skillNow_16 : decode cX6_skillNow 16 = .ok (.aload_n 0, 1) := by decide +kernel
theorem dX6_skillNow_17 : decode cX6_skillNow 17 = .ok (.iload_n 1, 1) := by decide +kernel
theorem dX6_skillNow_18 : decode cX6_skillNow 18 = .ok (.iload_n 2, 1) := by decide +kernel
theorem dX6_skillNow_19 : decode cX6_skillNow 19 = .ok (.invokevirtual 74, 3) := by decide +kernel
theorem dX6_skillNow_22 : decode cX6_skillNow 22 = .ok (.ireturn, 1) := by decide +kernel
theorem dX6_skill_0 : decode cX6_skill 0 = .ok (.aload_n 0, 1) := by decide +kernel
theorem dX6_skill_1 : decode cX6_skill 1 = .ok (.aload_n 0, 1) := by decide +kernel
theorem dX6_skill_2 : decode cX6_skill 2 = .ok (.iload_n 1, 1) := by decide +kernel
theorem dX6_skill_3 : decode cX6_skill 3 = .ok (.invokevirtual 64, 3) := by decide +kernel
theorem dX6_skill_6 : decode cX6_skill 6 = .ok (.ifCond .eq 10, 3) := by decide +kernel
theorem dX6_skill_9 : decode cX6_skill 9 = .ok (.iload_n 2, 1) := by decide +kernel
theorem dX6_skill_10 : decode cX6_skill 10 = .ok (.invokestatic 85, 3) := by decide +kernel
theorem dX6_skill_13 : decode cX6_skill 13 = .ok (.ifCond .ne 7, 3) := by decide +kernel
theorem dX6_skill_16 : decode cX6_skill 16 = .ok (.iconst 1, 1) := by decide +kernel
theorem dX6_skill_17 : decode cX6_skill 17 = .ok (.goto 17, 3) := by decide +kernel
theorem dX6_skill_20 : decode cX6_skill 20 = .ok (.iload_n 3, 1) := by decide +kernel
theorem dX6_skill_21 : decode cX6_skill 21 = .ok (.iconst 0, 1) := by decide +kernel
theorem dX6_skill_22 : decode cX6_skill 22 = .ok (.iconst 1, 1) := by decide +kernel
theorem dX6_skill_23 : decode cX6_skill 23 = .ok (.invokestatic 32, 3) := by decide +kernel
theorem dX6_skill_26 : decode cX6_skill 26 = .ok (.ifCond .eq 7, 3) := by decide +kernel
theorem dX6_skill_29 : decode cX6_skill 29 = .ok (.iconst 0, 1) := by decide +kernel
theorem dX6_skill_30 : decode cX6_skill 30 = .ok (.goto 4, 3) := by decide +kernel
theorem dX6_skill_33 : decode cX6_skill 33 = .ok (.iconst 2, 1) := by decide +kernel
theorem dX6_skill_34 : decode cX6_skill 34 = .ok (.putfield 25, 3) := by decide +kernel
theorem dX6_skill_37 : decode cX6_skill 37 = .ok (.aload_n 0, 1) := by decide +kernel
theorem dX6_skill_38 : decode cX6_skill 38 = .ok (.getfield 25, 3) := by decide +kernel
theorem dX6_skill_41 : decode cX6_skill 41 = .ok (.ifCond .le 7, 3) := by decide +kernel
theorem dX6_skill_44 : decode cX6_skill 44 = .ok (.iconst 0, 1) := by decide +kernel
theorem dX6_skill_45 : decode cX6_skill 45 = .ok (.goto 10, 3) := by decide +kernel
theorem dX6_skill_48 : decode cX6_skill 48 = .ok (.aload_n 0, 1) := by decide +kernel
theorem dX6_skill_49 : decode cX6_skill 49 = .ok (.iload_n 1, 1) := by decide +kernel
theorem dX6_skill_50 : decode cX6_skill 50 = .ok (.iload_n 2, 1) := by decide +kernel
theorem dX6_skill_51 : decode cX6_skill 51 = .ok (.iload_n 3, 1) := by decide +kernel
theorem dX6_skill_52 : decode cX6_skill 52 = .ok (.invokevirtual 150, 3) := by decide +kernel
theorem dX6_skill_55 : decode cX6_skill 55 = .ok (.ireturn, 1) := by decide +kernel
theorem dX6_sumOf_0 : decode cX6_sumOf 0 = .ok (.iconst 0, 1) := by decide +kernel
theorem dX6_sumOf_1 : decode cX6_sumOf 1 = .ok (.istore_n 2, 1) := by decide +kernel
theorem dX6_sumOf_2 : decode cX6_sumOf 2 = .ok (.iconst 0, 1) := by decide +kernel
theorem dX6_sumOf_3 : decode cX6_sumOf 3 = .ok (.istore_n 3, 1) := by decide +kernel
theorem dX6_sumOf_4 : decode cX6_sumOf 4 = .ok (.iload_n 3, 1) := by decide +kernel
theorem dX6_sumOf_5 : decode cX6_sumOf 5 = .ok (.aload_n 0, 1) := by decide +kernel
theorem dX6_sumOf_6 : decode cX6_sumOf 6 = .ok (.getfield 7, 3) := by decide +kernel
theorem dX6_sumOf_9 : decode cX6_sumOf 9 = .ok (.iconst 5, 1) := by decide +kernel
theorem dX6_sumOf_10 : decode cX6_sumOf 10 = .ok (.iaload, 1) := by decide +kernel
theorem dX6_sumOf_11 : decode cX6_sumOf 11 = .ok (.if_icmp .ge 18, 3) := by decide +kernel
theorem dX6_sumOf_14 : decode cX6_sumOf 14 = .ok (.iload_n 2, 1) := by decide +kernel
theorem dX6_sumOf_15 : decode cX6_sumOf 15 = .ok (.aload_n 0, 1) := by decide +kernel
theorem dX6_sumOf_16 : decode cX6_sumOf 16 = .ok (.iload_n 3, 1) := by decide +kernel
theorem dX6_sumOf_17 : decode cX6_sumOf 17 = .ok (.iload_n 1, 1) := by decide +kernel
theorem dX6_sumOf_18 : decode cX6_sumOf 18 = .ok (.invokevirtual 36, 3) := by decide +kernel
theorem dX6_sumOf_21 : decode cX6_sumOf 21 = .ok (.iadd, 1) := by decide +kernel
theorem dX6_sumOf_22 : decode cX6_sumOf 22 = .ok (.istore_n 2, 1) := by decide +kernel
theorem dX6_sumOf_23 : decode cX6_sumOf 23 = .ok (.iinc 3 1, 3) := by decide +kernel
theorem dX6_sumOf_26 : decode cX6_sumOf 26 = .ok (.goto (-22), 3) := by decide +kernel
theorem dX6_sumOf_29 : decode cX6_sumOf 29 = .ok (.iload_n 2, 1) := by decide +kernel
theorem dX6_sumOf_30 : decode cX6_sumOf 30 = .ok (.ireturn, 1) := by decide +kernel
theorem dX6_sumOfBalances_0 : decode cX6_sumOfBalances 0 = .ok (.iconst 0, 1) := by decide +kernel
theorem dX6_sumOfBalances_1 : decode cX6_sumOfBalances 1 = .ok (.istore_n 2, 1) := by decide +kernel
theorem dX6_sumOfBalances_2 : decode cX6_sumOfBalances 2 = .ok (.iconst 0, 1) := by decide +kernel
theorem dX6_sumOfBalances_3 : decode cX6_sumOfBalances 3 = .ok (.istore_n 3, 1) := by decide +kernel
theorem dX6_sumOfBalances_4 : decode cX6_sumOfBalances 4 = .ok (.iload_n 3, 1) := by decide +kernel
theorem dX6_sumOfBalances_5 : decode cX6_sumOfBalances 5 = .ok (.aload_n 0, 1) := by decide +kernel
theorem dX6_sumOfBalances_6 : decode cX6_sumOfBalances 6 = .ok (.getfield 7, 3) := by decide +kernel
theorem dX6_sumOfBalances_9 : decode cX6_sumOfBalances 9 = .ok (.iconst 5, 1) := by decide +kernel
theorem dX6_sumOfBalances_10 : decode cX6_sumOfBalances 10 = .ok (.iaload, 1) := by decide +kernel
theorem dX6_sumOfBalances_11 : decode cX6_sumOfBalances 11 = .ok (.if_icmp .ge 40, 3) := by decide +kernel
theorem dX6_sumOfBalances_14 : decode cX6_sumOfBalances 14 = .ok (.aload_n 0, 1) := by decide +kernel
theorem dX6_sumOfBalances_15 : decode cX6_sumOfBalances 15 = .ok (.iload_n 3, 1) := by decide +kernel
theorem dX6_sumOfBalances_16 : decode cX6_sumOfBalances 16 = .ok (.iconst 1, 1) := by decide +kernel
theorem dX6_sumOfBalances_17 : decode cX6_sumOfBalances 17 = .ok (.invokevirtual 36, 3) := by decide +kernel
theorem dX6_sumOfBalances_20 : decode cX6_sumOfBalances 20 = .ok (.istore 4, 2) := by decide +kernel
theorem dX6_sumOfBalances_22 : decode cX6_sumOfBalances 22 = .ok (.iload_n 2, 1) := by decide +kernel
theorem dX6_sumOfBalances_23 : decode cX6_sumOfBalances 23 = .ok (.iload 4, 2) := by decide +kernel
theorem dX6_sumOfBalances_25 : decode cX6_sumOfBalances 25 = .ok (.ifCond .le 7, 3) := by decide +kernel
theorem dX6_sumOfBalances_28 : decode cX6_sumOfBalances 28 = .ok (.iconst 1, 1) := by decide +kernel
theorem dX6_sumOfBalances_29 : decode cX6_sumOfBalances 29 = .ok (.goto 4, 3) := by decide +kernel
theorem dX6_sumOfBalances_32 : decode cX6_sumOfBalances 32 = .ok (.iconst 0, 1) := by decide +kernel
theorem dX6_sumOfBalances_33 : decode cX6_sumOfBalances 33 = .ok (.iload_n 1, 1) := by decide +kernel
theorem dX6_sumOfBalances_34 : decode cX6_sumOfBalances 34 = .ok (.if_icmp .ne 8, 3) := by decide +kernel
theorem dX6_sumOfBalances_37 : decode cX6_sumOfBalances 37 = .ok (.iload 4, 2) := by decide +kernel
theorem dX6_sumOfBalances_39 : decode cX6_sumOfBalances 39 = .ok (.goto 4, 3) := by decide +kernel
theorem dX6_sumOfBalances_42 : decode cX6_sumOfBalances 42 = .ok (.iconst 0, 1) := by decide +kernel
theorem dX6_sumOfBalances_43 : decode cX6_sumOfBalances 43 = .ok (.iadd, 1) := by decide +kernel
theorem dX6_sumOfBalances_44 : decode cX6_sumOfBalances 44 = .ok (.istore_n 2, 1) := by decide +kernel
theorem dX6_sumOfBalances_45 : decode cX6_sumOfBalances 45 = .ok (.iinc 3 1, 3) := by decide +kernel
theorem dX6_sumOfBalances_48 : decode cX6_sumOfBalances 48 = .ok (.goto (-44), 3) := by decide +kernel
theorem dX6_sumOfBalances_51 : decode cX6_sumOfBalances 51 = .ok (.iload_n 2, 1) := by decide +kernel
theorem dX6_sumOfBalances_52 : decode cX6_sumOfBalances 52 = .ok (.ireturn, 1) := by decide +kernel
theorem dX6_counted_0 : decode cX6_counted 0 = .ok (.iload_n 1, 1) := by decide +kernel
theorem dX6_counted_1 : decode cX6_counted 1 = .ok (.tableswitch 147 0 12 #[67, 74, 79, 79, 79, 79, 91, 97, 103, 109, 117, 125, 136], 67) := by decide +kernel
theorem dX6_counted_68 : decode cX6_counted 68 = .ok (.aload_n 0, 1) := by decide +kernel
theorem dX6_counted_69 : decode cX6_counted 69 = .ok (.getfield 7, 3) := by decide +kernel
theorem dX6_counted_72 : decode cX6_counted 72 = .ok (.iconst 5, 1) := by decide +kernel
theorem dX6_counted_73 : decode cX6_counted 73 = .ok (.iaload, 1) := by decide +kernel
theorem dX6_counted_74 : decode cX6_counted 74 = .ok (.ireturn, 1) := by decide +kernel
theorem dX6_counted_75 : decode cX6_counted 75 = .ok (.aload_n 0, 1) := by decide +kernel
theorem dX6_counted_76 : decode cX6_counted 76 = .ok (.invokevirtual 40, 3) := by decide +kernel
theorem dX6_counted_79 : decode cX6_counted 79 = .ok (.ireturn, 1) := by decide +kernel
theorem dX6_counted_80 : decode cX6_counted 80 = .ok (.aload_n 0, 1) := by decide +kernel
theorem dX6_counted_81 : decode cX6_counted 81 = .ok (.getfield 7, 3) := by decide +kernel
theorem dX6_counted_84 : decode cX6_counted 84 = .ok (.bipush 6, 2) := by decide +kernel
theorem dX6_counted_86 : decode cX6_counted 86 = .ok (.iload_n 1, 1) := by decide +kernel
theorem dX6_counted_87 : decode cX6_counted 87 = .ok (.iadd, 1) := by decide +kernel
theorem dX6_counted_88 : decode cX6_counted 88 = .ok (.iconst 2, 1) := by decide +kernel
theorem dX6_counted_89 : decode cX6_counted 89 = .ok (.isub, 1) := by decide +kernel
theorem dX6_counted_90 : decode cX6_counted 90 = .ok (.iaload, 1) := by decide +kernel
theorem dX6_counted_91 : decode cX6_counted 91 = .ok (.ireturn, 1) := by decide +kernel
theorem dX6_counted_92 : decode cX6_counted 92 = .ok (.aload_n 0, 1) := by decide +kernel
theorem dX6_counted_93 : decode cX6_counted 93 = .ok (.iconst 1, 1) := by decide +kernel
theorem dX6_counted_94 : decode cX6_counted 94 = .ok (.invokevirtual 153, 3) := by decide +kernel
theorem dX6_counted_97 : decode cX6_counted 97 = .ok (.ireturn, 1) := by decide +kernel
theorem dX6_counted_98 : decode cX6_counted 98 = .ok (.aload_n 0, 1) := by decide +kernel
theorem dX6_counted_99 : decode cX6_counted 99 = .ok (.iconst 0, 1) := by decide +kernel
theorem dX6_counted_100 : decode cX6_counted 100 = .ok (.invokevirtual 153, 3) := by decide +kernel
theorem dX6_counted_103 : decode cX6_counted 103 = .ok (.ireturn, 1) := by decide +kernel
theorem dX6_counted_104 : decode cX6_counted 104 = .ok (.aload_n 0, 1) := by decide +kernel
theorem dX6_counted_105 : decode cX6_counted 105 = .ok (.iconst 2, 1) := by decide +kernel
theorem dX6_counted_106 : decode cX6_counted 106 = .ok (.invokevirtual 157, 3) := by decide +kernel
theorem dX6_counted_109 : decode cX6_counted 109 = .ok (.ireturn, 1) := by decide +kernel
theorem dX6_counted_110 : decode cX6_counted 110 = .ok (.aload_n 0, 1) := by decide +kernel
theorem dX6_counted_111 : decode cX6_counted 111 = .ok (.getfield 7, 3) := by decide +kernel
theorem dX6_counted_114 : decode cX6_counted 114 = .ok (.bipush 10, 2) := by decide +kernel
theorem dX6_counted_116 : decode cX6_counted 116 = .ok (.iaload, 1) := by decide +kernel
theorem dX6_counted_117 : decode cX6_counted 117 = .ok (.ireturn, 1) := by decide +kernel
theorem dX6_counted_118 : decode cX6_counted 118 = .ok (.aload_n 0, 1) := by decide +kernel
theorem dX6_counted_119 : decode cX6_counted 119 = .ok (.getfield 7, 3) := by decide +kernel
theorem dX6_counted_122 : decode cX6_counted 122 = .ok (.bipush 11, 2) := by decide +kernel
theorem dX6_counted_124 : decode cX6_counted 124 = .ok (.iaload, 1) := by decide +kernel
theorem dX6_counted_125 : decode cX6_counted 125 = .ok (.ireturn, 1) := by decide +kernel
theorem dX6_counted_126 : decode cX6_counted 126 = .ok (.aload_n 0, 1) := by decide +kernel
theorem dX6_counted_127 : decode cX6_counted 127 = .ok (.getfield 7, 3) := by decide +kernel
theorem dX6_counted_130 : decode cX6_counted 130 = .ok (.bipush 12, 2) := by decide +kernel
theorem dX6_counted_132 : decode cX6_counted 132 = .ok (.iaload, 1) := by decide +kernel
theorem dX6_counted_133 : decode cX6_counted 133 = .ok (.invokestatic 48, 3) := by decide +kernel
theorem dX6_counted_136 : decode cX6_counted 136 = .ok (.ireturn, 1) := by decide +kernel
theorem dX6_counted_137 : decode cX6_counted 137 = .ok (.aload_n 0, 1) := by decide +kernel
theorem dX6_counted_138 : decode cX6_counted 138 = .ok (.getfield 7, 3) := by decide +kernel
theorem dX6_counted_141 : decode cX6_counted 141 = .ok (.bipush 13, 2) := by decide +kernel
theorem dX6_counted_143 : decode cX6_counted 143 = .ok (.iaload, 1) := by decide +kernel
theorem dX6_counted_144 : decode cX6_counted 144 = .ok (.invokestatic 48, 3) := by decide +kernel
theorem dX6_counted_147 : decode cX6_counted 147 = .ok (.ireturn, 1) := by decide +kernel
theorem dX6_counted_148 : decode cX6_counted 148 = .ok (.aload_n 0, 1) := by decide +kernel
theorem dX6_counted_149 : decode cX6_counted 149 = .ok (.getfield 29, 3) := by decide +kernel
theorem dX6_counted_152 : decode cX6_counted 152 = .ok (.ireturn, 1) := by decide +kernel
theorem dX6_count_0 : decode cX6_count 0 = .ok (.aload_n 0, 1) := by decide +kernel
theorem dX6_count_1 : decode cX6_count 1 = .ok (.iload_n 1, 1) := by decide +kernel
theorem dX6_count_2 : decode cX6_count 2 = .ok (.iconst 0, 1) := by decide +kernel
theorem dX6_count_3 : decode cX6_count 3 = .ok (.bipush 13, 2) := by decide +kernel
theorem dX6_count_5 : decode cX6_count 5 = .ok (.invokestatic 32, 3) := by decide +kernel
theorem dX6_count_8 : decode cX6_count 8 = .ok (.ifCond .eq 7, 3) := by decide +kernel
theorem dX6_count_11 : decode cX6_count 11 = .ok (.iconst 0, 1) := by decide +kernel
theorem dX6_count_12 : decode cX6_count 12 = .ok (.goto 4, 3) := by decide +kernel
theorem dX6_count_15 : decode cX6_count 15 = .ok (.iconst 1, 1) := by decide +kernel
theorem dX6_count_16 : decode cX6_count 16 = .ok (.putfield 25, 3) := by decide +kernel
theorem dX6_count_19 : decode cX6_count 19 = .ok (.aload_n 0, 1) := by decide +kernel
theorem dX6_count_20 : decode cX6_count 20 = .ok (.getfield 25, 3) := by decide +kernel
theorem dX6_count_23 : decode cX6_count 23 = .ok (.ifCond .le 7, 3) := by decide +kernel
theorem dX6_count_26 : decode cX6_count 26 = .ok (.iconst 0, 1) := by decide +kernel
theorem dX6_count_27 : decode cX6_count 27 = .ok (.goto 8, 3) := by decide +kernel
theorem dX6_count_30 : decode cX6_count 30 = .ok (.aload_n 0, 1) := by decide +kernel
theorem dX6_count_31 : decode cX6_count 31 = .ok (.iload_n 1, 1) := by decide +kernel
theorem dX6_count_32 : decode cX6_count 32 = .ok (.invokevirtual 160, 3) := by decide +kernel
theorem dX6_count_35 : decode cX6_count 35 = .ok (.ireturn, 1) := by decide +kernel
theorem dX6_setting_0 : decode cX6_setting 0 = .ok (.aload_n 0, 1) := by decide +kernel
theorem dX6_setting_1 : decode cX6_setting 1 = .ok (.iload_n 1, 1) := by decide +kernel
theorem dX6_setting_2 : decode cX6_setting 2 = .ok (.invokestatic 105, 3) := by decide +kernel
theorem dX6_setting_5 : decode cX6_setting 5 = .ok (.ifCond .eq 7, 3) := by decide +kernel
theorem dX6_setting_8 : decode cX6_setting 8 = .ok (.iconst 0, 1) := by decide +kernel
theorem dX6_setting_9 : decode cX6_setting 9 = .ok (.goto 4, 3) := by decide +kernel
theorem dX6_setting_12 : decode cX6_setting 12 = .ok (.iconst 1, 1) := by decide +kernel
theorem dX6_setting_13 : decode cX6_setting 13 = .ok (.putfield 25, 3) := by decide +kernel
theorem dX6_setting_16 : decode cX6_setting 16 = .ok (.aload_n 0, 1) := by decide +kernel
theorem dX6_setting_17 : decode cX6_setting 17 = .ok (.getfield 25, 3) := by decide +kernel
theorem dX6_setting_20 : decode cX6_setting 20 = .ok (.ifCond .le 7, 3) := by decide +kernel
theorem dX6_setting_23 : decode cX6_setting 23 = .ok (.iconst 0, 1) := by decide +kernel
theorem dX6_setting_24 : decode cX6_setting 24 = .ok (.goto 9, 3) := by decide +kernel
theorem dX6_setting_27 : decode cX6_setting 27 = .ok (.aload_n 0, 1) := by decide +kernel
theorem dX6_setting_28 : decode cX6_setting 28 = .ok (.getfield 7, 3) := by decide +kernel
theorem dX6_setting_31 : decode cX6_setting 31 = .ok (.iload_n 1, 1) := by decide +kernel
theorem dX6_setting_32 : decode cX6_setting 32 = .ok (.iaload, 1) := by decide +kernel
theorem dX6_setting_33 : decode cX6_setting 33 = .ok (.ireturn, 1) := by decide +kernel
theorem dX6_worth_0 : decode cX6_worth 0 = .ok (.aload_n 0, 1) := by decide +kernel
theorem dX6_worth_1 : decode cX6_worth 1 = .ok (.aload_n 0, 1) := by decide +kernel
theorem dX6_worth_2 : decode cX6_worth 2 = .ok (.iload_n 1, 1) := by decide +kernel
theorem dX6_worth_3 : decode cX6_worth 3 = .ok (.invokevirtual 64, 3) := by decide +kernel
theorem dX6_worth_6 : decode cX6_worth 6 = .ok (.ifCond .eq 10, 3) := by decide +kernel
theorem dX6_worth_9 : decode cX6_worth 9 = .ok (.iload_n 2, 1) := by decide +kernel
theorem dX6_worth_10 : decode cX6_worth 10 = .ok (.invokestatic 85, 3) := by decide +kernel
theorem dX6_worth_13 : decode cX6_worth 13 = .ok (.ifCond .ne 7, 3) := by decide +kernel
theorem dX6_worth_16 : decode cX6_worth 16 = .ok (.iconst 1, 1) := by decide +kernel
theorem dX6_worth_17 : decode cX6_worth 17 = .ok (.goto 15, 3) := by decide +kernel
theorem dX6_worth_20 : decode cX6_worth 20 = .ok (.iload_n 3, 1) := by decide +kernel
theorem dX6_worth_21 : decode cX6_worth 21 = .ok (.invokestatic 88, 3) := by decide +kernel
theorem dX6_worth_24 : decode cX6_worth 24 = .ok (.ifCond .eq 7, 3) := by decide +kernel
theorem dX6_worth_27 : decode cX6_worth 27 = .ok (.iconst 0, 1) := by decide +kernel
theorem dX6_worth_28 : decode cX6_worth 28 = .ok (.goto 4, 3) := by decide +kernel
theorem dX6_worth_31 : decode cX6_worth 31 = .ok (.iconst 2, 1) := by decide +kernel
theorem dX6_worth_32 : decode cX6_worth 32 = .ok (.putfield 25, 3) := by decide +kernel
theorem dX6_worth_35 : decode cX6_worth 35 = .ok (.aload_n 0, 1) := by decide +kernel
theorem dX6_worth_36 : decode cX6_worth 36 = .ok (.getfield 25, 3) := by decide +kernel
theorem dX6_worth_39 : decode cX6_worth 39 = .ok (.ifCond .le 7, 3) := by decide +kernel
theorem dX6_worth_42 : decode cX6_worth 42 = .ok (.iconst 0, 1) := by decide +kernel
theorem dX6_worth_43 : decode cX6_worth 43 = .ok (.goto 10, 3) := by decide +kernel
theorem dX6_worth_46 : decode cX6_worth 46 = .ok (.aload_n 0, 1) := by decide +kernel
theorem dX6_worth_47 : decode cX6_worth 47 = .ok (.iload_n 1, 1) := by decide +kernel
theorem dX6_worth_48 : decode cX6_worth 48 = .ok (.iload_n 2, 1) := by decide +kernel
theorem dX6_worth_49 : decode cX6_worth 49 = .ok (.iload_n 3, 1) := by decide +kernel
theorem dX6_worth_50 : decode cX6_worth 50 = .ok (.invokevirtual 77, 3) := by decide +kernel
theorem dX6_worth_53 : decode cX6_worth 53 = .ok (.ireturn, 1) := by decide +kernel
theorem dX6_longestNow_0 : decode cX6_longestNow 0 = .ok (.sipush 600, 3) := by decide +kernel
theorem dX6_longestNow_3 : decode cX6_longestNow 3 = .ok (.istore 4, 2) := by decide +kernel
theorem dX6_longestNow_5 : decode cX6_longestNow 5 = .ok (.iload 4, 2) := by decide +kernel
theorem dX6_longestNow_7 : decode cX6_longestNow 7 = .ok (.ifCond .le 24, 3) := by decide +kernel
theorem dX6_longestNow_10 : decode cX6_longestNow 10 = .ok (.aload_n 0, 1) := by decide +kernel
theorem dX6_longestNow_11 : decode cX6_longestNow 11 = .ok (.iload_n 1, 1) := by decide +kernel
theorem dX6_longestNow_12 : decode cX6_longestNow 12 = .ok (.iload_n 2, 1) := by decide +kernel
theorem dX6_longestNow_13 : decode cX6_longestNow 13 = .ok (.iload_n 3, 1) := by decide +kernel
theorem dX6_longestNow_14 : decode cX6_longestNow 14 = .ok (.iload 4, 2) := by decide +kernel
theorem dX6_longestNow_16 : decode cX6_longestNow 16 = .ok (.invokevirtual 91, 3) := by decide +kernel
theorem dX6_longestNow_19 : decode cX6_longestNow 19 = .ok (.ifCond .eq 6, 3) := by decide +kernel
theorem dX6_longestNow_22 : decode cX6_longestNow 22 = .ok (.iload 4, 2) := by decide +kernel
theorem dX6_longestNow_24 : decode cX6_longestNow 24 = .ok (.ireturn, 1) := by decide +kernel
theorem dX6_longestNow_25 : decode cX6_longestNow 25 = .ok (.iinc 4 (-1), 3) := by decide +kernel
theorem dX6_longestNow_28 : decode cX6_longestNow 28 = .ok (.goto (-23), 3) := by decide +kernel
theorem dX6_longestNow_31 : decode cX6_longestNow 31 = .ok (.iconst (-1), 1) := by decide +kernel
theorem dX6_longestNow_32 : decode cX6_longestNow 32 = .ok (.ireturn, 1) := by decide +kernel
theorem dX6_longest_0 : decode cX6_longest 0 = .ok (.aload_n 0, 1) := by decide +kernel
theorem dX6_longest_1 : decode cX6_longest 1 = .ok (.aload_n 0, 1) := by decide +kernel
theorem dX6_longest_2 : decode cX6_longest 2 = .ok (.iload_n 1, 1) := by decide +kernel
theorem dX6_longest_3 : decode cX6_longest 3 = .ok (.invokevirtual 64, 3) := by decide +kernel
theorem dX6_longest_6 : decode cX6_longest 6 = .ok (.ifCond .eq 22, 3) := by decide +kernel
theorem dX6_longest_9 : decode cX6_longest 9 = .ok (.aload_n 0, 1) := by decide +kernel
theorem dX6_longest_10 : decode cX6_longest 10 = .ok (.iload_n 2, 1) := by decide +kernel
theorem dX6_longest_11 : decode cX6_longest 11 = .ok (.invokevirtual 64, 3) := by decide +kernel
theorem dX6_longest_14 : decode cX6_longest 14 = .ok (.ifCond .eq 14, 3) := by decide +kernel
theorem dX6_longest_17 : decode cX6_longest 17 = .ok (.iload_n 3, 1) := by decide +kernel
theorem dX6_longest_18 : decode cX6_longest 18 = .ok (.invokestatic 85, 3) := by decide +kernel
theorem dX6_longest_21 : decode cX6_longest 21 = .ok (.ifCond .eq 7, 3) := by decide +kernel
theorem dX6_longest_24 : decode cX6_longest 24 = .ok (.iconst 0, 1) := by decide +kernel
theorem dX6_longest_25 : decode cX6_longest 25 = .ok (.goto 4, 3) := by decide +kernel
theorem dX6_longest_28 : decode cX6_longest 28 = .ok (.iconst 1, 1) := by decide +kernel
theorem dX6_longest_29 : decode cX6_longest 29 = .ok (.putfield 25, 3) := by decide +kernel
theorem dX6_longest_32 : decode cX6_longest 32 = .ok (.aload_n 0, 1) := by decide +kernel
theorem dX6_longest_33 : decode cX6_longest 33 = .ok (.getfield 25, 3) := by decide +kernel
theorem dX6_longest_36 : decode cX6_longest 36 = .ok (.ifCond .le 7, 3) := by decide +kernel
theorem dX6_longest_39 : decode cX6_longest 39 = .ok (.iconst 0, 1) := by decide +kernel
theorem dX6_longest_40 : decode cX6_longest 40 = .ok (.goto 10, 3) := by decide +kernel
theorem dX6_longest_43 : decode cX6_longest 43 = .ok (.aload_n 0, 1) := by decide +kernel
theorem dX6_longest_44 : decode cX6_longest 44 = .ok (.iload_n 1, 1) := by decide +kernel
theorem dX6_longest_45 : decode cX6_longest 45 = .ok (.iload_n 2, 1) := by decide +kernel
theorem dX6_longest_46 : decode cX6_longest 46 = .ok (.iload_n 3, 1) := by decide +kernel
theorem dX6_longest_47 : decode cX6_longest 47 = .ok (.invokevirtual 163, 3) := by decide +kernel
theorem dX6_longest_50 : decode cX6_longest 50 = .ok (.ireturn, 1) := by decide +kernel
theorem dX6_cheapestNow_0 : decode cX6_cheapestNow 0 = .ok (.iconst (-1), 1) := by decide +kernel
theorem dX6_cheapestNow_1 : decode cX6_cheapestNow 1 = .ok (.istore 4, 2) := by decide +kernel
theorem dX6_cheapestNow_3 : decode cX6_cheapestNow 3 = .ok (.iconst 0, 1) := by decide +kernel
theorem dX6_cheapestNow_4 : decode cX6_cheapestNow 4 = .ok (.istore 5, 2) := by decide +kernel
theorem dX6_cheapestNow_6 : decode cX6_cheapestNow 6 = .ok (.iload 5, 2) := by decide +kernel
theorem dX6_cheapestNow_8 : decode cX6_cheapestNow 8 = .ok (.aload_n 0, 1) := by decide +kernel
theorem dX6_cheapestNow_9 : decode cX6_cheapestNow 9 = .ok (.getfield 7, 3) := by decide +kernel
theorem dX6_cheapestNow_12 : decode cX6_cheapestNow 12 = .ok (.iconst 5, 1) := by decide +kernel
theorem dX6_cheapestNow_13 : decode cX6_cheapestNow 13 = .ok (.iaload, 1) := by decide +kernel
theorem dX6_cheapestNow_14 : decode cX6_cheapestNow 14 = .ok (.if_icmp .ge 86, 3) := by decide +kernel
theorem dX6_cheapestNow_17 : decode cX6_cheapestNow 17 = .ok (.aload_n 0, 1) := by decide +kernel
theorem dX6_cheapestNow_18 : decode cX6_cheapestNow 18 = .ok (.iload 5, 2) := by decide +kernel
theorem dX6_cheapestNow_20 : decode cX6_cheapestNow 20 = .ok (.iload_n 1, 1) := by decide +kernel
theorem dX6_cheapestNow_21 : decode cX6_cheapestNow 21 = .ok (.iload_n 2, 1) := by decide +kernel
theorem dX6_cheapestNow_22 : decode cX6_cheapestNow 22 = .ok (.iload_n 3, 1) := by decide +kernel
theorem dX6_cheapestNow_23 : decode cX6_cheapestNow 23 = .ok (.invokevirtual 91, 3) := by decide +kernel
theorem dX6_cheapestNow_26 : decode cX6_cheapestNow 26 = .ok (.ifCond .eq 68, 3) := by decide +kernel
theorem dX6_cheapestNow_29 : decode cX6_cheapestNow 29 = .ok (.iload 4, 2) := by decide +kernel
theorem dX6_cheapestNow_31 : decode cX6_cheapestNow 31 = .ok (.iconst (-1), 1) := by decide +kernel
theorem dX6_cheapestNow_32 : decode cX6_cheapestNow 32 = .ok (.if_icmp .ne 7, 3) := by decide +kernel
theorem dX6_cheapestNow_35 : decode cX6_cheapestNow 35 = .ok (.iconst 1, 1) := by decide +kernel
theorem dX6_cheapestNow_36 : decode cX6_cheapestNow 36 = .ok (.goto 20, 3) := by decide +kernel
theorem dX6_cheapestNow_39 : decode cX6_cheapestNow 39 = .ok (.aload_n 0, 1) := by decide +kernel
theorem dX6_cheapestNow_40 : decode cX6_cheapestNow 40 = .ok (.iload 4, 2) := by decide +kernel
theorem dX6_cheapestNow_42 : decode cX6_cheapestNow 42 = .ok (.iload_n 2, 1) := by decide +kernel
theorem dX6_cheapestNow_43 : decode cX6_cheapestNow 43 = .ok (.iload_n 3, 1) := by decide +kernel
theorem dX6_cheapestNow_44 : decode cX6_cheapestNow 44 = .ok (.invokevirtual 77, 3) := by decide +kernel
theorem dX6_cheapestNow_47 : decode cX6_cheapestNow 47 = .ok (.aload_n 0, 1) := by decide +kernel
theorem dX6_cheapestNow_48 : decode cX6_cheapestNow 48 = .ok (.iload 5, 2) := by decide +kernel
theorem dX6_cheapestNow_50 : decode cX6_cheapestNow 50 = .ok (.iload_n 2, 1) := by decide +kernel
theorem dX6_cheapestNow_51 : decode cX6_cheapestNow 51 = .ok (.iload_n 3, 1) := by decide +kernel
theorem dX6_cheapestNow_52 : decode cX6_cheapestNow 52 = .ok (.invokevirtual 77, 3) := by decide +kernel
theorem dX6_cheapestNow_55 : decode cX6_cheapestNow 55 = .ok (.isub, 1) := by decide +kernel
theorem dX6_cheapestNow_56 : decode cX6_cheapestNow 56 = .ok (.istore 6, 2) := by decide +kernel
theorem dX6_cheapestNow_58 : decode cX6_cheapestNow 58 = .ok (.iload 6, 2) := by decide +kernel
theorem dX6_cheapestNow_60 : decode cX6_cheapestNow 60 = .ok (.ifCond .gt 25, 3) := by decide +kernel
theorem dX6_cheapestNow_63 : decode cX6_cheapestNow 63 = .ok (.iload 6, 2) := by decide +kernel
theorem dX6_cheapestNow_65 : decode cX6_cheapestNow 65 = .ok (.ifCond .ne 25, 3) := by decide +kernel
theorem dX6_cheapestNow_68 : decode cX6_cheapestNow 68 = .ok (.aload_n 0, 1) := by decide +kernel
theorem dX6_cheapestNow_69 : decode cX6_cheapestNow 69 = .ok (.iload 5, 2) := by decide +kernel
theorem dX6_cheapestNow_71 : decode cX6_cheapestNow 71 = .ok (.iconst 1, 1) := by decide +kernel
theorem dX6_cheapestNow_72 : decode cX6_cheapestNow 72 = .ok (.invokevirtual 36, 3) := by decide +kernel
theorem dX6_cheapestNow_75 : decode cX6_cheapestNow 75 = .ok (.aload_n 0, 1) := by decide +kernel
theorem dX6_cheapestNow_76 : decode cX6_cheapestNow 76 = .ok (.iload 4, 2) := by decide +kernel
theorem dX6_cheapestNow_78 : decode cX6_cheapestNow 78 = .ok (.iconst 1, 1) := by decide +kernel
theorem dX6_cheapestNow_79 : decode cX6_cheapestNow 79 = .ok (.invokevirtual 36, 3) := by decide +kernel
theorem dX6_cheapestNow_82 : decode cX6_cheapestNow 82 = .ok (.if_icmp .ge 8, 3) := by decide +kernel
theorem dX6_cheapestNow_85 : decode cX6_cheapestNow 85 = .ok (.iload 5, 2) := by decide +kernel
theorem dX6_cheapestNow_87 : decode cX6_cheapestNow 87 = .ok (.goto 5, 3) := by decide +kernel
theorem dX6_cheapestNow_90 : decode cX6_cheapestNow 90 = .ok (.iload 4, 2) := by decide +kernel
theorem dX6_cheapestNow_92 : decode cX6_cheapestNow 92 = .ok (.istore 4, 2) := by decide +kernel
theorem dX6_cheapestNow_94 : decode cX6_cheapestNow 94 = .ok (.iinc 5 1, 3) := by decide +kernel
theorem dX6_cheapestNow_97 : decode cX6_cheapestNow 97 = .ok (.goto (-91), 3) := by decide +kernel
theorem dX6_cheapestNow_100 : decode cX6_cheapestNow 100 = .ok (.iload 4, 2) := by decide +kernel
theorem dX6_cheapestNow_102 : decode cX6_cheapestNow 102 = .ok (.ireturn, 1) := by decide +kernel
theorem dX6_cheapest_0 : decode cX6_cheapest 0 = .ok (.aload_n 0, 1) := by decide +kernel
theorem dX6_cheapest_1 : decode cX6_cheapest 1 = .ok (.aload_n 0, 1) := by decide +kernel
theorem dX6_cheapest_2 : decode cX6_cheapest 2 = .ok (.iload_n 1, 1) := by decide +kernel
theorem dX6_cheapest_3 : decode cX6_cheapest 3 = .ok (.invokevirtual 64, 3) := by decide +kernel
theorem dX6_cheapest_6 : decode cX6_cheapest 6 = .ok (.ifCond .eq 10, 3) := by decide +kernel
theorem dX6_cheapest_9 : decode cX6_cheapest 9 = .ok (.iload_n 2, 1) := by decide +kernel
theorem dX6_cheapest_10 : decode cX6_cheapest 10 = .ok (.invokestatic 85, 3) := by decide +kernel
theorem dX6_cheapest_13 : decode cX6_cheapest 13 = .ok (.ifCond .ne 7, 3) := by decide +kernel
theorem dX6_cheapest_16 : decode cX6_cheapest 16 = .ok (.iconst 1, 1) := by decide +kernel
theorem dX6_cheapest_17 : decode cX6_cheapest 17 = .ok (.goto 15, 3) := by decide +kernel
theorem dX6_cheapest_20 : decode cX6_cheapest 20 = .ok (.iload_n 3, 1) := by decide +kernel
theorem dX6_cheapest_21 : decode cX6_cheapest 21 = .ok (.invokestatic 88, 3) := by decide +kernel
theorem dX6_cheapest_24 : decode cX6_cheapest 24 = .ok (.ifCond .eq 7, 3) := by decide +kernel
theorem dX6_cheapest_27 : decode cX6_cheapest 27 = .ok (.iconst 0, 1) := by decide +kernel
theorem dX6_cheapest_28 : decode cX6_cheapest 28 = .ok (.goto 4, 3) := by decide +kernel
theorem dX6_cheapest_31 : decode cX6_cheapest 31 = .ok (.iconst 2, 1) := by decide +kernel
theorem dX6_cheapest_32 : decode cX6_cheapest 32 = .ok (.putfield 25, 3) := by decide +kernel
theorem dX6_cheapest_35 : decode cX6_cheapest 35 = .ok (.aload_n 0, 1) := by decide +kernel
theorem dX6_cheapest_36 : decode cX6_cheapest 36 = .ok (.getfield 25, 3) := by decide +kernel
theorem dX6_cheapest_39 : decode cX6_cheapest 39 = .ok (.ifCond .le 7, 3) := by decide +kernel
theorem dX6_cheapest_42 : decode cX6_cheapest 42 = .ok (.iconst 0, 1) := by decide +kernel
theorem dX6_cheapest_43 : decode cX6_cheapest 43 = .ok (.goto 10, 3) := by decide +kernel
theorem dX6_cheapest_46 : decode cX6_cheapest 46 = .ok (.aload_n 0, 1) := by decide +kernel
theorem dX6_cheapest_47 : decode cX6_cheapest 47 = .ok (.iload_n 1, 1) := by decide +kernel
theorem dX6_cheapest_48 : decode cX6_cheapest 48 = .ok (.iload_n 2, 1) := by decide +kernel
theorem dX6_cheapest_49 : decode cX6_cheapest 49 = .ok (.iload_n 3, 1) := by decide +kernel
theorem dX6_cheapest_50 : decode cX6_cheapest 50 = .ok (.invokevirtual 166, 3) := by decide +kernel
theorem dX6_cheapest_53 : decode cX6_cheapest 53 = .ok (.ireturn, 1) := by decide +kernel
theorem dX6_decaysThen_0 : decode cX6_decaysThen 0 = .ok (.iconst 0, 1) := by decide +kernel
theorem dX6_decaysThen_1 : decode cX6_decaysThen 1 = .ok (.istore_n 3, 1) := by decide +kernel
theorem dX6_decaysThen_2 : decode cX6_decaysThen 2 = .ok (.iload_n 3, 1) := by decide +kernel
theorem dX6_decaysThen_3 : decode cX6_decaysThen 3 = .ok (.sipush 142, 3) := by decide +kernel
theorem dX6_decaysThen_6 : decode cX6_decaysThen 6 = .ok (.if_icmp .ge 21, 3) := by decide +kernel
theorem dX6_decaysThen_9 : decode cX6_decaysThen 9 = .ok (.aload_n 0, 1) := by decide +kernel
theorem dX6_decaysThen_10 : decode cX6_decaysThen 10 = .ok (.getfield 22, 3) := by decide +kernel
theorem dX6_decaysThen_13 : decode cX6_decaysThen 13 = .ok (.iload_n 3, 1) := by decide +kernel
theorem dX6_decaysThen_14 : decode cX6_decaysThen 14 = .ok (.aload_n 0, 1) := by decide +kernel
theorem dX6_decaysThen_15 : decode cX6_decaysThen 15 = .ok (.getfield 7, 3) := by decide +kernel
theorem dX6_decaysThen_18 : decode cX6_decaysThen 18 = .ok (.iload_n 3, 1) := by decide +kernel
theorem dX6_decaysThen_19 : decode cX6_decaysThen 19 = .ok (.iaload, 1) := by decide +kernel
theorem dX6_decaysThen_20 : decode cX6_decaysThen 20 = .ok (.iastore, 1) := by decide +kernel
theorem dX6_decaysThen_21 : decode cX6_decaysThen 21 = .ok (.iinc 3 1, 3) := by decide +kernel
theorem dX6_decaysThen_24 : decode cX6_decaysThen 24 = .ok (.goto (-22), 3) := by decide +kernel
theorem dX6_decaysThen_27 : decode cX6_decaysThen 27 = .ok (.aload_n 0, 1) := by decide +kernel
theorem dX6_decaysThen_28 : decode cX6_decaysThen 28 = .ok (.iload_n 1, 1) := by decide +kernel
theorem dX6_decaysThen_29 : decode cX6_decaysThen 29 = .ok (.bipush 9, 2) := by decide +kernel
theorem dX6_decaysThen_31 : decode cX6_decaysThen 31 = .ok (.invokevirtual 36, 3) := by decide +kernel
theorem dX6_decaysThen_34 : decode cX6_decaysThen 34 = .ok (.istore_n 3, 1) := by decide +kernel
theorem dX6_decaysThen_35 : decode cX6_decaysThen 35 = .ok (.aload_n 0, 1) := by decide +kernel
theorem dX6_decaysThen_36 : decode cX6_decaysThen 36 = .ok (.iload_n 2, 1) := by decide +kernel
theorem dX6_decaysThen_37 : decode cX6_decaysThen 37 = .ok (.invokevirtual 102, 3) := by decide +kernel
theorem dX6_decaysThen_40 : decode cX6_decaysThen 40 = .ok (.istore 4, 2) := by decide +kernel
theorem dX6_decaysThen_42 : decode cX6_decaysThen 42 = .ok (.aload_n 0, 1) := by decide +kernel
theorem dX6_decaysThen_43 : decode cX6_decaysThen 43 = .ok (.iload_n 1, 1) := by decide +kernel
theorem dX6_decaysThen_44 : decode cX6_decaysThen 44 = .ok (.bipush 9, 2) := by decide +kernel
theorem dX6_decaysThen_46 : decode cX6_decaysThen 46 = .ok (.invokevirtual 36, 3) := by decide +kernel
theorem dX6_decaysThen_49 : decode cX6_decaysThen 49 = .ok (.iload_n 3, 1) := by decide +kernel
theorem dX6_decaysThen_50 : decode cX6_decaysThen 50 = .ok (.isub, 1) := by decide +kernel
theorem dX6_decaysThen_51 : decode cX6_decaysThen 51 = .ok (.istore 5, 2) := by decide +kernel
theorem dX6_decaysThen_53 : decode cX6_decaysThen 53 = .ok (.iconst 0, 1) := by decide +kernel
theorem dX6_decaysThen_54 : decode cX6_decaysThen 54 = .ok (.istore 6, 2) := by decide +kernel
theorem dX6_decaysThen_56 : decode cX6_decaysThen 56 = .ok (.iload 6, 2) := by decide +kernel
theorem dX6_decaysThen_58 : decode cX6_decaysThen 58 = .ok (.sipush 142, 3) := by decide +kernel
theorem dX6_decaysThen_61 : decode cX6_decaysThen 61 = .ok (.if_icmp .ge 23, 3) := by decide +kernel
theorem dX6_decaysThen_64 : decode cX6_decaysThen 64 = .ok (.aload_n 0, 1) := by decide +kernel
theorem dX6_decaysThen_65 : decode cX6_decaysThen 65 = .ok (.getfield 7, 3) := by decide +kernel
theorem dX6_decaysThen_68 : decode cX6_decaysThen 68 = .ok (.iload 6, 2) := by decide +kernel
theorem dX6_decaysThen_70 : decode cX6_decaysThen 70 = .ok (.aload_n 0, 1) := by decide +kernel
theorem dX6_decaysThen_71 : decode cX6_decaysThen 71 = .ok (.getfield 22, 3) := by decide +kernel
theorem dX6_decaysThen_74 : decode cX6_decaysThen 74 = .ok (.iload 6, 2) := by decide +kernel
theorem dX6_decaysThen_76 : decode cX6_decaysThen 76 = .ok (.iaload, 1) := by decide +kernel
theorem dX6_decaysThen_77 : decode cX6_decaysThen 77 = .ok (.iastore, 1) := by decide +kernel
theorem dX6_decaysThen_78 : decode cX6_decaysThen 78 = .ok (.iinc 6 1, 3) := by decide +kernel
theorem dX6_decaysThen_81 : decode cX6_decaysThen 81 = .ok (.goto (-25), 3) := by decide +kernel
theorem dX6_decaysThen_84 : decode cX6_decaysThen 84 = .ok (.iload 4, 2) := by decide +kernel
theorem dX6_decaysThen_86 : decode cX6_decaysThen 86 = .ok (.iload 5, 2) := by decide +kernel
theorem dX6_decaysThen_88 : decode cX6_decaysThen 88 = .ok (.if_icmp .ge 7, 3) := by decide +kernel
theorem dX6_decaysThen_91 : decode cX6_decaysThen 91 = .ok (.iconst (-1), 1) := by decide +kernel
theorem dX6_decaysThen_92 : decode cX6_decaysThen 92 = .ok (.goto 5, 3) := by decide +kernel
theorem dX6_decaysThen_95 : decode cX6_decaysThen 95 = .ok (.iload 5, 2) := by decide +kernel
theorem dX6_decaysThen_97 : decode cX6_decaysThen 97 = .ok (.ireturn, 1) := by decide +kernel
theorem dX6_decayIn_0 : decode cX6_decayIn 0 = .ok (.aload_n 0, 1) := by decide +kernel
theorem dX6_decayIn_1 : decode cX6_decayIn 1 = .ok (.aload_n 0, 1) := by decide +kernel
theorem dX6_decayIn_2 : decode cX6_decayIn 2 = .ok (.iload_n 1, 1) := by decide +kernel
theorem dX6_decayIn_3 : decode cX6_decayIn 3 = .ok (.invokevirtual 64, 3) := by decide +kernel
theorem dX6_decayIn_6 : decode cX6_decayIn 6 = .ok (.ifCond .ne 7, 3) := by decide +kernel
theorem dX6_decayIn_9 : decode cX6_decayIn 9 = .ok (.iconst 1, 1) := by decide +kernel
theorem dX6_decayIn_10 : decode cX6_decayIn 10 = .ok (.goto 18, 3) := by decide +kernel
theorem dX6_decayIn_13 : decode cX6_decayIn 13 = .ok (.iload_n 2, 1) := by decide +kernel
theorem dX6_decayIn_14 : decode cX6_decayIn 14 = .ok (.iconst 0, 1) := by decide +kernel
theorem dX6_decayIn_15 : decode cX6_decayIn 15 = .ok (.bipush 100, 2) := by decide +kernel
theorem dX6_decayIn_17 : decode cX6_decayIn 17 = .ok (.invokestatic 32, 3) := by decide +kernel
theorem dX6_decayIn_20 : decode cX6_decayIn 20 = .ok (.ifCond .eq 7, 3) := by decide +kernel
theorem dX6_decayIn_23 : decode cX6_decayIn 23 = .ok (.iconst 0, 1) := by decide +kernel
theorem dX6_decayIn_24 : decode cX6_decayIn 24 = .ok (.goto 4, 3) := by decide +kernel
theorem dX6_decayIn_27 : decode cX6_decayIn 27 = .ok (.iconst 2, 1) := by decide +kernel
theorem dX6_decayIn_28 : decode cX6_decayIn 28 = .ok (.putfield 25, 3) := by decide +kernel
theorem dX6_decayIn_31 : decode cX6_decayIn 31 = .ok (.aload_n 0, 1) := by decide +kernel
theorem dX6_decayIn_32 : decode cX6_decayIn 32 = .ok (.getfield 25, 3) := by decide +kernel
theorem dX6_decayIn_35 : decode cX6_decayIn 35 = .ok (.ifCond .le 7, 3) := by decide +kernel
theorem dX6_decayIn_38 : decode cX6_decayIn 38 = .ok (.iconst 0, 1) := by decide +kernel
theorem dX6_decayIn_39 : decode cX6_decayIn 39 = .ok (.goto 9, 3) := by decide +kernel
theorem dX6_decayIn_42 : decode cX6_decayIn 42 = .ok (.aload_n 0, 1) := by decide +kernel
theorem dX6_decayIn_43 : decode cX6_decayIn 43 = .ok (.iload_n 1, 1) := by decide +kernel
theorem dX6_decayIn_44 : decode cX6_decayIn 44 = .ok (.iload_n 2, 1) := by decide +kernel
theorem dX6_decayIn_45 : decode cX6_decayIn 45 = .ok (.invokevirtual 169, 3) := by decide +kernel
theorem dX6_decayIn_48 : decode cX6_decayIn 48 = .ok (.ireturn, 1) := by decide +kernel
theorem dX6_needed_0 : decode cX6_needed 0 = .ok (.aload_n 0, 1) := by decide +kernel
theorem dX6_needed_1 : decode cX6_needed 1 = .ok (.getfield 7, 3) := by decide +kernel
theorem dX6_needed_4 : decode cX6_needed 4 = .ok (.bipush 10, 2) := by decide +kernel
theorem dX6_needed_6 : decode cX6_needed 6 = .ok (.iaload, 1) := by decide +kernel
theorem dX6_needed_7 : decode cX6_needed 7 = .ok (.iconst (-1), 1) := by decide +kernel
theorem dX6_needed_8 : decode cX6_needed 8 = .ok (.if_icmp .ne 7, 3) := by decide +kernel
theorem dX6_needed_11 : decode cX6_needed 11 = .ok (.iconst (-1), 1) := by decide +kernel
theorem dX6_needed_12 : decode cX6_needed 12 = .ok (.goto 29, 3) := by decide +kernel
theorem dX6_needed_15 : decode cX6_needed 15 = .ok (.aload_n 0, 1) := by decide +kernel
theorem dX6_needed_16 : decode cX6_needed 16 = .ok (.aload_n 0, 1) := by decide +kernel
theorem dX6_needed_17 : decode cX6_needed 17 = .ok (.getfield 7, 3) := by decide +kernel
theorem dX6_needed_20 : decode cX6_needed 20 = .ok (.bipush 10, 2) := by decide +kernel
theorem dX6_needed_22 : decode cX6_needed 22 = .ok (.iaload, 1) := by decide +kernel
theorem dX6_needed_23 : decode cX6_needed 23 = .ok (.invokevirtual 44, 3) := by decide +kernel
theorem dX6_needed_26 : decode cX6_needed 26 = .ok (.iconst 2, 1) := by decide +kernel
theorem dX6_needed_27 : decode cX6_needed 27 = .ok (.idiv, 1) := by decide +kernel
theorem dX6_needed_28 : decode cX6_needed 28 = .ok (.iconst 1, 1) := by decide +kernel
theorem dX6_needed_29 : decode cX6_needed 29 = .ok (.iadd, 1) := by decide +kernel
theorem dX6_needed_30 : decode cX6_needed 30 = .ok (.aload_n 0, 1) := by decide +kernel
theorem dX6_needed_31 : decode cX6_needed 31 = .ok (.getfield 7, 3) := by decide +kernel
theorem dX6_needed_34 : decode cX6_needed 34 = .ok (.bipush 12, 2) := by decide +kernel
theorem dX6_needed_36 : decode cX6_needed 36 = .ok (.iaload, 1) := by decide +kernel
theorem dX6_needed_37 : decode cX6_needed 37 = .ok (.invokestatic 48, 3) := by decide +kernel
theorem dX6_needed_40 : decode cX6_needed 40 = .ok (.isub, 1) := by decide +kernel
theorem dX6_needed_41 : decode cX6_needed 41 = .ok (.ireturn, 1) := by decide +kernel
theorem dX6_votesNeeded_0 : decode cX6_votesNeeded 0 = .ok (.aload_n 0, 1) := by decide +kernel
theorem dX6_votesNeeded_1 : decode cX6_votesNeeded 1 = .ok (.iconst 0, 1) := by decide +kernel
theorem dX6_votesNeeded_2 : decode cX6_votesNeeded 2 = .ok (.putfield 25, 3) := by decide +kernel
theorem dX6_votesNeeded_5 : decode cX6_votesNeeded 5 = .ok (.aload_n 0, 1) := by decide +kernel
theorem dX6_votesNeeded_6 : decode cX6_votesNeeded 6 = .ok (.invokevirtual 172, 3) := by decide +kernel
theorem dX6_votesNeeded_9 : decode cX6_votesNeeded 9 = .ok (.ireturn, 1) := by decide +kernel
theorem dX6_ripestNow_0 : decode cX6_ripestNow 0 = .ok (.iconst (-1), 1) := by decide +kernel
theorem dX6_ripestNow_1 : decode cX6_ripestNow 1 = .ok (.istore_n 2, 1) := by decide +kernel
theorem dX6_ripestNow_2 : decode cX6_ripestNow 2 = .ok (.iconst 0, 1) := by decide +kernel
theorem dX6_ripestNow_3 : decode cX6_ripestNow 3 = .ok (.istore_n 3, 1) := by decide +kernel
theorem dX6_ripestNow_4 : decode cX6_ripestNow 4 = .ok (.iload_n 3, 1) := by decide +kernel
theorem dX6_ripestNow_5 : decode cX6_ripestNow 5 = .ok (.aload_n 0, 1) := by decide +kernel
theorem dX6_ripestNow_6 : decode cX6_ripestNow 6 = .ok (.getfield 7, 3) := by decide +kernel
theorem dX6_ripestNow_9 : decode cX6_ripestNow 9 = .ok (.iconst 5, 1) := by decide +kernel
theorem dX6_ripestNow_10 : decode cX6_ripestNow 10 = .ok (.iaload, 1) := by decide +kernel
theorem dX6_ripestNow_11 : decode cX6_ripestNow 11 = .ok (.if_icmp .ge 61, 3) := by decide +kernel
theorem dX6_ripestNow_14 : decode cX6_ripestNow 14 = .ok (.aload_n 0, 1) := by decide +kernel
theorem dX6_ripestNow_15 : decode cX6_ripestNow 15 = .ok (.iload_n 3, 1) := by decide +kernel
theorem dX6_ripestNow_16 : decode cX6_ripestNow 16 = .ok (.invokevirtual 68, 3) := by decide +kernel
theorem dX6_ripestNow_19 : decode cX6_ripestNow 19 = .ok (.ifCond .eq 33, 3) := by decide +kernel
theorem dX6_ripestNow_22 : decode cX6_ripestNow 22 = .ok (.iload_n 2, 1) := by decide +kernel
theorem dX6_ripestNow_23 : decode cX6_ripestNow 23 = .ok (.iconst (-1), 1) := by decide +kernel
theorem dX6_ripestNow_24 : decode cX6_ripestNow 24 = .ok (.if_icmp .eq 24, 3) := by decide +kernel
theorem dX6_ripestNow_27 : decode cX6_ripestNow 27 = .ok (.aload_n 0, 1) := by decide +kernel
theorem dX6_ripestNow_28 : decode cX6_ripestNow 28 = .ok (.iload_n 3, 1) := by decide +kernel
theorem dX6_ripestNow_29 : decode cX6_ripestNow 29 = .ok (.bipush 11, 2) := by decide +kernel
theorem dX6_ripestNow_31 : decode cX6_ripestNow 31 = .ok (.iload_n 1, 1) := by decide +kernel
theorem dX6_ripestNow_32 : decode cX6_ripestNow 32 = .ok (.iadd, 1) := by decide +kernel
theorem dX6_ripestNow_33 : decode cX6_ripestNow 33 = .ok (.invokevirtual 36, 3) := by decide +kernel
theorem dX6_ripestNow_36 : decode cX6_ripestNow 36 = .ok (.aload_n 0, 1) := by decide +kernel
theorem dX6_ripestNow_37 : decode cX6_ripestNow 37 = .ok (.iload_n 2, 1) := by decide +kernel
theorem dX6_ripestNow_38 : decode cX6_ripestNow 38 = .ok (.bipush 11, 2) := by decide +kernel
theorem dX6_ripestNow_40 : decode cX6_ripestNow 40 = .ok (.iload_n 1, 1) := by decide +kernel
