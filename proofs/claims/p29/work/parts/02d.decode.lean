theorem dL_members_783 : decode cL_members 783 = .ok (.iload 6, 2) := by decide +kernel
theorem dL_members_785 : decode cL_members 785 = .ok (.imul, 1) := by decide +kernel
theorem dL_members_786 : decode cL_members 786 = .ok (.iconst 1, 1) := by decide +kernel
theorem dL_members_787 : decode cL_members 787 = .ok (.iadd, 1) := by decide +kernel
theorem dL_members_788 : decode cL_members 788 = .ok (.iaload, 1) := by decide +kernel
theorem dL_members_789 : decode cL_members 789 = .ok (.if_icmp .ne 7, 3) := by decide +kernel
theorem dL_members_792 : decode cL_members 792 = .ok (.iconst 1, 1) := by decide +kernel
theorem dL_members_793 : decode cL_members 793 = .ok (.goto 4, 3) := by decide +kernel
theorem dL_members_796 : decode cL_members 796 = .ok (.iconst 0, 1) := by decide +kernel
theorem dL_members_797 : decode cL_members 797 = .ok (.ireturn, 1) := by decide +kernel
theorem dL_members_798 : decode cL_members 798 = .ok (.iload_n 2, 1) := by decide +kernel
theorem dL_members_799 : decode cL_members 799 = .ok (.iconst 5, 1) := by decide +kernel
theorem dL_members_800 : decode cL_members 800 = .ok (.invokestatic 26, 3) := by decide +kernel
theorem dL_members_803 : decode cL_members 803 = .ok (.istore 9, 2) := by decide +kernel
theorem dL_members_805 : decode cL_members 805 = .ok (.aload_n 3, 1) := by decide +kernel
theorem dL_members_806 : decode cL_members 806 = .ok (.bipush 6, 2) := by decide +kernel
theorem dL_members_808 : decode cL_members 808 = .ok (.iload 9, 2) := by decide +kernel
theorem dL_members_810 : decode cL_members 810 = .ok (.iadd, 1) := by decide +kernel
theorem dL_members_811 : decode cL_members 811 = .ok (.iaload, 1) := by decide +kernel
theorem dL_members_812 : decode cL_members 812 = .ok (.istore 10, 2) := by decide +kernel
theorem dL_members_814 : decode cL_members 814 = .ok (.aload_n 3, 1) := by decide +kernel
theorem dL_members_815 : decode cL_members 815 = .ok (.bipush 6, 2) := by decide +kernel
theorem dL_members_817 : decode cL_members 817 = .ok (.iload 9, 2) := by decide +kernel
theorem dL_members_819 : decode cL_members 819 = .ok (.iadd, 1) := by decide +kernel
theorem dL_members_820 : decode cL_members 820 = .ok (.iload_n 2, 1) := by decide +kernel
theorem dL_members_821 : decode cL_members 821 = .ok (.iconst 3, 1) := by decide +kernel
theorem dL_members_822 : decode cL_members 822 = .ok (.ishr, 1) := by decide +kernel
theorem dL_members_823 : decode cL_members 823 = .ok (.iload 9, 2) := by decide +kernel
theorem dL_members_825 : decode cL_members 825 = .ok (.ifCond .ne 9, 3) := by decide +kernel
theorem dL_members_828 : decode cL_members 828 = .ok (.sipush 2000, 3) := by decide +kernel
theorem dL_members_831 : decode cL_members 831 = .ok (.goto 40, 3) := by decide +kernel
theorem dL_members_834 : decode cL_members 834 = .ok (.iload 9, 2) := by decide +kernel
theorem dL_members_836 : decode cL_members 836 = .ok (.iconst 1, 1) := by decide +kernel
theorem dL_members_837 : decode cL_members 837 = .ok (.if_icmp .ne 9, 3) := by decide +kernel
theorem dL_members_840 : decode cL_members 840 = .ok (.sipush 1000, 3) := by decide +kernel
theorem dL_members_843 : decode cL_members 843 = .ok (.goto 28, 3) := by decide +kernel
theorem dL_members_846 : decode cL_members 846 = .ok (.iload 9, 2) := by decide +kernel
theorem dL_members_848 : decode cL_members 848 = .ok (.iconst 2, 1) := by decide +kernel
theorem dL_members_849 : decode cL_members 849 = .ok (.if_icmp .ne 8, 3) := by decide +kernel
theorem dL_members_852 : decode cL_members 852 = .ok (.bipush 6, 2) := by decide +kernel
theorem dL_members_854 : decode cL_members 854 = .ok (.goto 17, 3) := by decide +kernel
theorem dL_members_857 : decode cL_members 857 = .ok (.iload 9, 2) := by decide +kernel
theorem dL_members_859 : decode cL_members 859 = .ok (.iconst 3, 1) := by decide +kernel
theorem dL_members_860 : decode cL_members 860 = .ok (.if_icmp .ne 8, 3) := by decide +kernel
theorem dL_members_863 : decode cL_members 863 = .ok (.bipush 101, 2) := by decide +kernel
theorem dL_members_865 : decode cL_members 865 = .ok (.goto 6, 3) := by decide +kernel
theorem dL_members_868 : decode cL_members 868 = .ok (.sipush 301, 3) := by decide +kernel
theorem dL_members_871 : decode cL_members 871 = .ok (.invokestatic 26, 3) := by decide +kernel
theorem dL_members_874 : decode cL_members 874 = .ok (.iastore, 1) := by decide +kernel
theorem dL_members_875 : decode cL_members 875 = .ok (.aload_n 3, 1) := by decide +kernel
theorem dL_members_876 : decode cL_members 876 = .ok (.iconst 5, 1) := by decide +kernel
theorem dL_members_877 : decode cL_members 877 = .ok (.iaload, 1) := by decide +kernel
theorem dL_members_878 : decode cL_members 878 = .ok (.bipush 6, 2) := by decide +kernel
theorem dL_members_880 : decode cL_members 880 = .ok (.if_icmp .ge 10, 3) := by decide +kernel
theorem dL_members_883 : decode cL_members 883 = .ok (.aload_n 3, 1) := by decide +kernel
theorem dL_members_884 : decode cL_members 884 = .ok (.iconst 5, 1) := by decide +kernel
theorem dL_members_885 : decode cL_members 885 = .ok (.dup2, 1) := by decide +kernel
theorem dL_members_886 : decode cL_members 886 = .ok (.iaload, 1) := by decide +kernel
theorem dL_members_887 : decode cL_members 887 = .ok (.iconst 1, 1) := by decide +kernel
theorem dL_members_888 : decode cL_members 888 = .ok (.iadd, 1) := by decide +kernel
theorem dL_members_889 : decode cL_members 889 = .ok (.iastore, 1) := by decide +kernel
theorem dL_members_890 : decode cL_members 890 = .ok (.aload_n 0, 1) := by decide +kernel
theorem dL_members_891 : decode cL_members 891 = .ok (.iload 9, 2) := by decide +kernel
theorem dL_members_893 : decode cL_members 893 = .ok (.aload_n 3, 1) := by decide +kernel
theorem dL_members_894 : decode cL_members 894 = .ok (.bipush 6, 2) := by decide +kernel
theorem dL_members_896 : decode cL_members 896 = .ok (.iload 9, 2) := by decide +kernel
theorem dL_members_898 : decode cL_members 898 = .ok (.iadd, 1) := by decide +kernel
theorem dL_members_899 : decode cL_members 899 = .ok (.iaload, 1) := by decide +kernel
theorem dL_members_900 : decode cL_members 900 = .ok (.invokevirtual 57, 3) := by decide +kernel
theorem dL_members_903 : decode cL_members 903 = .ok (.iload 10, 2) := by decide +kernel
theorem dL_members_905 : decode cL_members 905 = .ok (.if_icmp .ne 7, 3) := by decide +kernel
theorem dL_members_908 : decode cL_members 908 = .ok (.iconst 1, 1) := by decide +kernel
theorem dL_members_909 : decode cL_members 909 = .ok (.goto 4, 3) := by decide +kernel
theorem dL_members_912 : decode cL_members 912 = .ok (.iconst 0, 1) := by decide +kernel
theorem dL_members_913 : decode cL_members 913 = .ok (.ireturn, 1) := by decide +kernel
theorem dL_bank_0 : decode cL_bank 0 = .ok (.iload_n 1, 1) := by decide +kernel
theorem dL_bank_1 : decode cL_bank 1 = .ok (.bipush 6, 2) := by decide +kernel
theorem dL_bank_3 : decode cL_bank 3 = .ok (.invokestatic 26, 3) := by decide +kernel
theorem dL_bank_6 : decode cL_bank 6 = .ok (.istore 5, 2) := by decide +kernel
theorem dL_bank_8 : decode cL_bank 8 = .ok (.iload_n 2, 1) := by decide +kernel
theorem dL_bank_9 : decode cL_bank 9 = .ok (.aload_n 3, 1) := by decide +kernel
theorem dL_bank_10 : decode cL_bank 10 = .ok (.iconst 0, 1) := by decide +kernel
theorem dL_bank_11 : decode cL_bank 11 = .ok (.iaload, 1) := by decide +kernel
theorem dL_bank_12 : decode cL_bank 12 = .ok (.invokestatic 26, 3) := by decide +kernel
theorem dL_bank_15 : decode cL_bank 15 = .ok (.istore 6, 2) := by decide +kernel
theorem dL_bank_17 : decode cL_bank 17 = .ok (.iload 5, 2) := by decide +kernel
theorem dL_bank_19 : decode cL_bank 19 = .ok (.iconst 3, 1) := by decide +kernel
theorem dL_bank_20 : decode cL_bank 20 = .ok (.if_icmp .ge 321, 3) := by decide +kernel
theorem dL_bank_23 : decode cL_bank 23 = .ok (.iconst 1, 1) := by decide +kernel
theorem dL_bank_24 : decode cL_bank 24 = .ok (.iload_n 2, 1) := by decide +kernel
theorem dL_bank_25 : decode cL_bank 25 = .ok (.bipush 6, 2) := by decide +kernel
theorem dL_bank_27 : decode cL_bank 27 = .ok (.invokestatic 26, 3) := by decide +kernel
theorem dL_bank_30 : decode cL_bank 30 = .ok (.iadd, 1) := by decide +kernel
theorem dL_bank_31 : decode cL_bank 31 = .ok (.istore 7, 2) := by decide +kernel
theorem dL_bank_33 : decode cL_bank 33 = .ok (.iconst 0, 1) := by decide +kernel
theorem dL_bank_34 : decode cL_bank 34 = .ok (.istore 8, 2) := by decide +kernel
theorem dL_bank_36 : decode cL_bank 36 = .ok (.iconst 0, 1) := by decide +kernel
theorem dL_bank_37 : decode cL_bank 37 = .ok (.istore 9, 2) := by decide +kernel
theorem dL_bank_39 : decode cL_bank 39 = .ok (.iload 9, 2) := by decide +kernel
theorem dL_bank_41 : decode cL_bank 41 = .ok (.iload 7, 2) := by decide +kernel
theorem dL_bank_43 : decode cL_bank 43 = .ok (.if_icmp .ge 258, 3) := by decide +kernel
theorem dL_bank_46 : decode cL_bank 46 = .ok (.iconst 0, 1) := by decide +kernel
theorem dL_bank_47 : decode cL_bank 47 = .ok (.istore 10, 2) := by decide +kernel
theorem dL_bank_49 : decode cL_bank 49 = .ok (.iload 10, 2) := by decide +kernel
theorem dL_bank_51 : decode cL_bank 51 = .ok (.aload_n 3, 1) := by decide +kernel
theorem dL_bank_52 : decode cL_bank 52 = .ok (.iconst 0, 1) := by decide +kernel
theorem dL_bank_53 : decode cL_bank 53 = .ok (.iaload, 1) := by decide +kernel
theorem dL_bank_54 : decode cL_bank 54 = .ok (.if_icmp .ge 241, 3) := by decide +kernel
theorem dL_bank_57 : decode cL_bank 57 = .ok (.aload 4, 2) := by decide +kernel
theorem dL_bank_59 : decode cL_bank 59 = .ok (.bipush 16, 2) := by decide +kernel
theorem dL_bank_61 : decode cL_bank 61 = .ok (.iload 10, 2) := by decide +kernel
theorem dL_bank_63 : decode cL_bank 63 = .ok (.imul, 1) := by decide +kernel
theorem dL_bank_64 : decode cL_bank 64 = .ok (.iaload, 1) := by decide +kernel
theorem dL_bank_65 : decode cL_bank 65 = .ok (.iconst 1, 1) := by decide +kernel
theorem dL_bank_66 : decode cL_bank 66 = .ok (.if_icmp .ne 223, 3) := by decide +kernel
theorem dL_bank_69 : decode cL_bank 69 = .ok (.aload 4, 2) := by decide +kernel
theorem dL_bank_71 : decode cL_bank 71 = .ok (.bipush 16, 2) := by decide +kernel
theorem dL_bank_73 : decode cL_bank 73 = .ok (.iload 10, 2) := by decide +kernel
theorem dL_bank_75 : decode cL_bank 75 = .ok (.imul, 1) := by decide +kernel
theorem dL_bank_76 : decode cL_bank 76 = .ok (.iconst 3, 1) := by decide +kernel
theorem dL_bank_77 : decode cL_bank 77 = .ok (.iadd, 1) := by decide +kernel
theorem dL_bank_78 : decode cL_bank 78 = .ok (.aload 4, 2) := by decide +kernel
theorem dL_bank_80 : decode cL_bank 80 = .ok (.bipush 16, 2) := by decide +kernel
theorem dL_bank_82 : decode cL_bank 82 = .ok (.iload 10, 2) := by decide +kernel
theorem dL_bank_84 : decode cL_bank 84 = .ok (.imul, 1) := by decide +kernel
theorem dL_bank_85 : decode cL_bank 85 = .ok (.iconst 4, 1) := by decide +kernel
theorem dL_bank_86 : decode cL_bank 86 = .ok (.iadd, 1) := by decide +kernel
theorem dL_bank_87 : decode cL_bank 87 = .ok (.iaload, 1) := by decide +kernel
theorem dL_bank_88 : decode cL_bank 88 = .ok (.iconst 1, 1) := by decide +kernel
theorem dL_bank_89 : decode cL_bank 89 = .ok (.if_icmp .ne 7, 3) := by decide +kernel
theorem dL_bank_92 : decode cL_bank 92 = .ok (.iconst 0, 1) := by decide +kernel
theorem dL_bank_93 : decode cL_bank 93 = .ok (.goto 15, 3) := by decide +kernel
theorem dL_bank_96 : decode cL_bank 96 = .ok (.aload 4, 2) := by decide +kernel
theorem dL_bank_98 : decode cL_bank 98 = .ok (.bipush 16, 2) := by decide +kernel
theorem dL_bank_100 : decode cL_bank 100 = .ok (.iload 10, 2) := by decide +kernel
theorem dL_bank_102 : decode cL_bank 102 = .ok (.imul, 1) := by decide +kernel
theorem dL_bank_103 : decode cL_bank 103 = .ok (.iconst 3, 1) := by decide +kernel
theorem dL_bank_104 : decode cL_bank 104 = .ok (.iadd, 1) := by decide +kernel
theorem dL_bank_105 : decode cL_bank 105 = .ok (.iaload, 1) := by decide +kernel
theorem dL_bank_106 : decode cL_bank 106 = .ok (.iconst 1, 1) := by decide +kernel
theorem dL_bank_107 : decode cL_bank 107 = .ok (.iadd, 1) := by decide +kernel
theorem dL_bank_108 : decode cL_bank 108 = .ok (.iastore, 1) := by decide +kernel
theorem dL_bank_109 : decode cL_bank 109 = .ok (.aload 4, 2) := by decide +kernel
theorem dL_bank_111 : decode cL_bank 111 = .ok (.bipush 16, 2) := by decide +kernel
theorem dL_bank_113 : decode cL_bank 113 = .ok (.iload 10, 2) := by decide +kernel
theorem dL_bank_115 : decode cL_bank 115 = .ok (.imul, 1) := by decide +kernel
theorem dL_bank_116 : decode cL_bank 116 = .ok (.iconst 4, 1) := by decide +kernel
theorem dL_bank_117 : decode cL_bank 117 = .ok (.iadd, 1) := by decide +kernel
theorem dL_bank_118 : decode cL_bank 118 = .ok (.iconst 0, 1) := by decide +kernel
theorem dL_bank_119 : decode cL_bank 119 = .ok (.iastore, 1) := by decide +kernel
theorem dL_bank_120 : decode cL_bank 120 = .ok (.aload 4, 2) := by decide +kernel
theorem dL_bank_122 : decode cL_bank 122 = .ok (.bipush 16, 2) := by decide +kernel
theorem dL_bank_124 : decode cL_bank 124 = .ok (.iload 10, 2) := by decide +kernel
theorem dL_bank_126 : decode cL_bank 126 = .ok (.imul, 1) := by decide +kernel
theorem dL_bank_127 : decode cL_bank 127 = .ok (.iconst 3, 1) := by decide +kernel
theorem dL_bank_128 : decode cL_bank 128 = .ok (.iadd, 1) := by decide +kernel
theorem dL_bank_129 : decode cL_bank 129 = .ok (.iaload, 1) := by decide +kernel
theorem dL_bank_130 : decode cL_bank 130 = .ok (.aload_n 3, 1) := by decide +kernel
theorem dL_bank_131 : decode cL_bank 131 = .ok (.bipush 8, 2) := by decide +kernel
theorem dL_bank_133 : decode cL_bank 133 = .ok (.iaload, 1) := by decide +kernel
theorem dL_bank_134 : decode cL_bank 134 = .ok (.if_icmp .gt 6, 3) := by decide +kernel
theorem dL_bank_137 : decode cL_bank 137 = .ok (.goto 152, 3) := by decide +kernel
theorem dL_bank_140 : decode cL_bank 140 = .ok (.aload 4, 2) := by decide +kernel
theorem dL_bank_142 : decode cL_bank 142 = .ok (.bipush 16, 2) := by decide +kernel
theorem dL_bank_144 : decode cL_bank 144 = .ok (.iload 10, 2) := by decide +kernel
theorem dL_bank_146 : decode cL_bank 146 = .ok (.imul, 1) := by decide +kernel
theorem dL_bank_147 : decode cL_bank 147 = .ok (.iconst 1, 1) := by decide +kernel
theorem dL_bank_148 : decode cL_bank 148 = .ok (.iadd, 1) := by decide +kernel
theorem dL_bank_149 : decode cL_bank 149 = .ok (.iaload, 1) := by decide +kernel
theorem dL_bank_150 : decode cL_bank 150 = .ok (.ifCond .le 24, 3) := by decide +kernel
theorem dL_bank_153 : decode cL_bank 153 = .ok (.aload 4, 2) := by decide +kernel
theorem dL_bank_155 : decode cL_bank 155 = .ok (.bipush 16, 2) := by decide +kernel
theorem dL_bank_157 : decode cL_bank 157 = .ok (.iload 10, 2) := by decide +kernel
theorem dL_bank_159 : decode cL_bank 159 = .ok (.imul, 1) := by decide +kernel
theorem dL_bank_160 : decode cL_bank 160 = .ok (.iconst 1, 1) := by decide +kernel
theorem dL_bank_161 : decode cL_bank 161 = .ok (.iadd, 1) := by decide +kernel
theorem dL_bank_162 : decode cL_bank 162 = .ok (.iaload, 1) := by decide +kernel
theorem dL_bank_163 : decode cL_bank 163 = .ok (.aload_n 3, 1) := by decide +kernel
theorem dL_bank_164 : decode cL_bank 164 = .ok (.bipush 9, 2) := by decide +kernel
theorem dL_bank_166 : decode cL_bank 166 = .ok (.iaload, 1) := by decide +kernel
theorem dL_bank_167 : decode cL_bank 167 = .ok (.imul, 1) := by decide +kernel
theorem dL_bank_168 : decode cL_bank 168 = .ok (.bipush 100, 2) := by decide +kernel
theorem dL_bank_170 : decode cL_bank 170 = .ok (.idiv, 1) := by decide +kernel
theorem dL_bank_171 : decode cL_bank 171 = .ok (.goto 4, 3) := by decide +kernel
theorem dL_bank_174 : decode cL_bank 174 = .ok (.iconst 0, 1) := by decide +kernel
theorem dL_bank_175 : decode cL_bank 175 = .ok (.istore 11, 2) := by decide +kernel
theorem dL_bank_177 : decode cL_bank 177 = .ok (.aload 4, 2) := by decide +kernel
theorem dL_bank_179 : decode cL_bank 179 = .ok (.bipush 16, 2) := by decide +kernel
theorem dL_bank_181 : decode cL_bank 181 = .ok (.iload 10, 2) := by decide +kernel
theorem dL_bank_183 : decode cL_bank 183 = .ok (.imul, 1) := by decide +kernel
theorem dL_bank_184 : decode cL_bank 184 = .ok (.iconst 1, 1) := by decide +kernel
theorem dL_bank_185 : decode cL_bank 185 = .ok (.iadd, 1) := by decide +kernel
theorem dL_bank_186 : decode cL_bank 186 = .ok (.dup2, 1) := by decide +kernel
theorem dL_bank_187 : decode cL_bank 187 = .ok (.iaload, 1) := by decide +kernel
theorem dL_bank_188 : decode cL_bank 188 = .ok (.iload 11, 2) := by decide +kernel
theorem dL_bank_190 : decode cL_bank 190 = .ok (.isub, 1) := by decide +kernel
theorem dL_bank_191 : decode cL_bank 191 = .ok (.iastore, 1) := by decide +kernel
theorem dL_bank_192 : decode cL_bank 192 = .ok (.aload 4, 2) := by decide +kernel
theorem dL_bank_194 : decode cL_bank 194 = .ok (.bipush 16, 2) := by decide +kernel
theorem dL_bank_196 : decode cL_bank 196 = .ok (.iload 10, 2) := by decide +kernel
theorem dL_bank_198 : decode cL_bank 198 = .ok (.imul, 1) := by decide +kernel
theorem dL_bank_199 : decode cL_bank 199 = .ok (.bipush 9, 2) := by decide +kernel
theorem dL_bank_201 : decode cL_bank 201 = .ok (.iadd, 1) := by decide +kernel
theorem dL_bank_202 : decode cL_bank 202 = .ok (.dup2, 1) := by decide +kernel
theorem dL_bank_203 : decode cL_bank 203 = .ok (.iaload, 1) := by decide +kernel
theorem dL_bank_204 : decode cL_bank 204 = .ok (.iload 11, 2) := by decide +kernel
theorem dL_bank_206 : decode cL_bank 206 = .ok (.iadd, 1) := by decide +kernel
theorem dL_bank_207 : decode cL_bank 207 = .ok (.iastore, 1) := by decide +kernel
theorem dL_bank_208 : decode cL_bank 208 = .ok (.aload_n 3, 1) := by decide +kernel
theorem dL_bank_209 : decode cL_bank 209 = .ok (.iconst 1, 1) := by decide +kernel
theorem dL_bank_210 : decode cL_bank 210 = .ok (.dup2, 1) := by decide +kernel
theorem dL_bank_211 : decode cL_bank 211 = .ok (.iaload, 1) := by decide +kernel
theorem dL_bank_212 : decode cL_bank 212 = .ok (.iload 11, 2) := by decide +kernel
theorem dL_bank_214 : decode cL_bank 214 = .ok (.iadd, 1) := by decide +kernel
theorem dL_bank_215 : decode cL_bank 215 = .ok (.iastore, 1) := by decide +kernel
theorem dL_bank_216 : decode cL_bank 216 = .ok (.iload 8, 2) := by decide +kernel
theorem dL_bank_218 : decode cL_bank 218 = .ok (.iload 11, 2) := by decide +kernel
theorem dL_bank_220 : decode cL_bank 220 = .ok (.iadd, 1) := by decide +kernel
theorem dL_bank_221 : decode cL_bank 221 = .ok (.istore 8, 2) := by decide +kernel
theorem dL_bank_223 : decode cL_bank 223 = .ok (.bipush 11, 2) := by decide +kernel
theorem dL_bank_225 : decode cL_bank 225 = .ok (.istore 12, 2) := by decide +kernel
theorem dL_bank_227 : decode cL_bank 227 = .ok (.iload 12, 2) := by decide +kernel
theorem dL_bank_229 : decode cL_bank 229 = .ok (.bipush 16, 2) := by decide +kernel
theorem dL_bank_231 : decode cL_bank 231 = .ok (.if_icmp .ge 58, 3) := by decide +kernel
theorem dL_bank_234 : decode cL_bank 234 = .ok (.aload 4, 2) := by decide +kernel
theorem dL_bank_236 : decode cL_bank 236 = .ok (.bipush 16, 2) := by decide +kernel
theorem dL_bank_238 : decode cL_bank 238 = .ok (.iload 10, 2) := by decide +kernel
theorem dL_bank_240 : decode cL_bank 240 = .ok (.imul, 1) := by decide +kernel
theorem dL_bank_241 : decode cL_bank 241 = .ok (.iload 12, 2) := by decide +kernel
theorem dL_bank_243 : decode cL_bank 243 = .ok (.iadd, 1) := by decide +kernel
theorem dL_bank_244 : decode cL_bank 244 = .ok (.aload 4, 2) := by decide +kernel
theorem dL_bank_246 : decode cL_bank 246 = .ok (.bipush 16, 2) := by decide +kernel
theorem dL_bank_248 : decode cL_bank 248 = .ok (.iload 10, 2) := by decide +kernel
theorem dL_bank_250 : decode cL_bank 250 = .ok (.imul, 1) := by decide +kernel
theorem dL_bank_251 : decode cL_bank 251 = .ok (.iload 12, 2) := by decide +kernel
theorem dL_bank_253 : decode cL_bank 253 = .ok (.iadd, 1) := by decide +kernel
theorem dL_bank_254 : decode cL_bank 254 = .ok (.iaload, 1) := by decide +kernel
theorem dL_bank_255 : decode cL_bank 255 = .ok (.aload_n 3, 1) := by decide +kernel
theorem dL_bank_256 : decode cL_bank 256 = .ok (.bipush 10, 2) := by decide +kernel
theorem dL_bank_258 : decode cL_bank 258 = .ok (.iaload, 1) := by decide +kernel
theorem dL_bank_259 : decode cL_bank 259 = .ok (.if_icmp .ge 7, 3) := by decide +kernel
theorem dL_bank_262 : decode cL_bank 262 = .ok (.iconst 0, 1) := by decide +kernel
theorem dL_bank_263 : decode cL_bank 263 = .ok (.goto 19, 3) := by decide +kernel
theorem dL_bank_266 : decode cL_bank 266 = .ok (.aload 4, 2) := by decide +kernel
theorem dL_bank_268 : decode cL_bank 268 = .ok (.bipush 16, 2) := by decide +kernel
theorem dL_bank_270 : decode cL_bank 270 = .ok (.iload 10, 2) := by decide +kernel
theorem dL_bank_272 : decode cL_bank 272 = .ok (.imul, 1) := by decide +kernel
theorem dL_bank_273 : decode cL_bank 273 = .ok (.iload 12, 2) := by decide +kernel
theorem dL_bank_275 : decode cL_bank 275 = .ok (.iadd, 1) := by decide +kernel
theorem dL_bank_276 : decode cL_bank 276 = .ok (.iaload, 1) := by decide +kernel
theorem dL_bank_277 : decode cL_bank 277 = .ok (.aload_n 3, 1) := by decide +kernel
theorem dL_bank_278 : decode cL_bank 278 = .ok (.bipush 10, 2) := by decide +kernel
theorem dL_bank_280 : decode cL_bank 280 = .ok (.iaload, 1) := by decide +kernel
theorem dL_bank_281 : decode cL_bank 281 = .ok (.isub, 1) := by decide +kernel
theorem dL_bank_282 : decode cL_bank 282 = .ok (.iastore, 1) := by decide +kernel
theorem dL_bank_283 : decode cL_bank 283 = .ok (.iinc 12 1, 3) := by decide +kernel
theorem dL_bank_286 : decode cL_bank 286 = .ok (.goto (-59), 3) := by decide +kernel
theorem dL_bank_289 : decode cL_bank 289 = .ok (.iinc 10 1, 3) := by decide +kernel
theorem dL_bank_292 : decode cL_bank 292 = .ok (.goto (-243), 3) := by decide +kernel
theorem dL_bank_295 : decode cL_bank 295 = .ok (.iinc 9 1, 3) := by decide +kernel
theorem dL_bank_298 : decode cL_bank 298 = .ok (.goto (-259), 3) := by decide +kernel
theorem dL_bank_301 : decode cL_bank 301 = .ok (.aload_n 3, 1) := by decide +kernel
theorem dL_bank_302 : decode cL_bank 302 = .ok (.iconst 3, 1) := by decide +kernel
theorem dL_bank_303 : decode cL_bank 303 = .ok (.dup2, 1) := by decide +kernel
theorem dL_bank_304 : decode cL_bank 304 = .ok (.iaload, 1) := by decide +kernel
theorem dL_bank_305 : decode cL_bank 305 = .ok (.iload 7, 2) := by decide +kernel
theorem dL_bank_307 : decode cL_bank 307 = .ok (.iadd, 1) := by decide +kernel
theorem dL_bank_308 : decode cL_bank 308 = .ok (.iastore, 1) := by decide +kernel
theorem dL_bank_309 : decode cL_bank 309 = .ok (.aload_n 3, 1) := by decide +kernel
theorem dL_bank_310 : decode cL_bank 310 = .ok (.iconst 5, 1) := by decide +kernel
theorem dL_bank_311 : decode cL_bank 311 = .ok (.iaload, 1) := by decide +kernel
theorem dL_bank_312 : decode cL_bank 312 = .ok (.bipush 6, 2) := by decide +kernel
theorem dL_bank_314 : decode cL_bank 314 = .ok (.if_icmp .ge 10, 3) := by decide +kernel
theorem dL_bank_317 : decode cL_bank 317 = .ok (.aload_n 3, 1) := by decide +kernel
theorem dL_bank_318 : decode cL_bank 318 = .ok (.iconst 5, 1) := by decide +kernel
theorem dL_bank_319 : decode cL_bank 319 = .ok (.dup2, 1) := by decide +kernel
theorem dL_bank_320 : decode cL_bank 320 = .ok (.iaload, 1) := by decide +kernel
theorem dL_bank_321 : decode cL_bank 321 = .ok (.iconst 1, 1) := by decide +kernel
theorem dL_bank_322 : decode cL_bank 322 = .ok (.iadd, 1) := by decide +kernel
theorem dL_bank_323 : decode cL_bank 323 = .ok (.iastore, 1) := by decide +kernel
theorem dL_bank_324 : decode cL_bank 324 = .ok (.aload_n 0, 1) := by decide +kernel
theorem dL_bank_325 : decode cL_bank 325 = .ok (.iload 7, 2) := by decide +kernel
theorem dL_bank_327 : decode cL_bank 327 = .ok (.invokevirtual 60, 3) := by decide +kernel
theorem dL_bank_330 : decode cL_bank 330 = .ok (.iload 8, 2) := by decide +kernel
theorem dL_bank_332 : decode cL_bank 332 = .ok (.if_icmp .ne 7, 3) := by decide +kernel
theorem dL_bank_335 : decode cL_bank 335 = .ok (.iconst 1, 1) := by decide +kernel
theorem dL_bank_336 : decode cL_bank 336 = .ok (.goto 4, 3) := by decide +kernel
theorem dL_bank_339 : decode cL_bank 339 = .ok (.iconst 0, 1) := by decide +kernel
theorem dL_bank_340 : decode cL_bank 340 = .ok (.ireturn, 1) := by decide +kernel
theorem dL_bank_341 : decode cL_bank 341 = .ok (.aload_n 3, 1) := by decide +kernel
theorem dL_bank_342 : decode cL_bank 342 = .ok (.bipush 11, 2) := by decide +kernel
theorem dL_bank_344 : decode cL_bank 344 = .ok (.iaload, 1) := by decide +kernel
theorem dL_bank_345 : decode cL_bank 345 = .ok (.ifCond .ge 108, 3) := by decide +kernel
theorem dL_bank_348 : decode cL_bank 348 = .ok (.iconst 1, 1) := by decide +kernel
theorem dL_bank_349 : decode cL_bank 349 = .ok (.iload_n 2, 1) := by decide +kernel
theorem dL_bank_350 : decode cL_bank 350 = .ok (.iconst 3, 1) := by decide +kernel
theorem dL_bank_351 : decode cL_bank 351 = .ok (.ishr, 1) := by decide +kernel
theorem dL_bank_352 : decode cL_bank 352 = .ok (.bipush 100, 2) := by decide +kernel
theorem dL_bank_354 : decode cL_bank 354 = .ok (.invokestatic 26, 3) := by decide +kernel
theorem dL_bank_357 : decode cL_bank 357 = .ok (.iadd, 1) := by decide +kernel
theorem dL_bank_358 : decode cL_bank 358 = .ok (.istore 7, 2) := by decide +kernel
theorem dL_bank_360 : decode cL_bank 360 = .ok (.aload 4, 2) := by decide +kernel
theorem dL_bank_362 : decode cL_bank 362 = .ok (.bipush 16, 2) := by decide +kernel
theorem dL_bank_364 : decode cL_bank 364 = .ok (.iload 6, 2) := by decide +kernel
theorem dL_bank_366 : decode cL_bank 366 = .ok (.imul, 1) := by decide +kernel
theorem dL_bank_367 : decode cL_bank 367 = .ok (.iaload, 1) := by decide +kernel
theorem dL_bank_368 : decode cL_bank 368 = .ok (.ifCond .eq 19, 3) := by decide +kernel
theorem dL_bank_371 : decode cL_bank 371 = .ok (.aload 4, 2) := by decide +kernel
theorem dL_bank_373 : decode cL_bank 373 = .ok (.bipush 16, 2) := by decide +kernel
theorem dL_bank_375 : decode cL_bank 375 = .ok (.iload 6, 2) := by decide +kernel
theorem dL_bank_377 : decode cL_bank 377 = .ok (.imul, 1) := by decide +kernel
theorem dL_bank_378 : decode cL_bank 378 = .ok (.iconst 1, 1) := by decide +kernel
theorem dL_bank_379 : decode cL_bank 379 = .ok (.iadd, 1) := by decide +kernel
theorem dL_bank_380 : decode cL_bank 380 = .ok (.iaload, 1) := by decide +kernel
theorem dL_bank_381 : decode cL_bank 381 = .ok (.ineg, 1) := by decide +kernel
theorem dL_bank_382 : decode cL_bank 382 = .ok (.iload 7, 2) := by decide +kernel
theorem dL_bank_384 : decode cL_bank 384 = .ok (.if_icmp .ge 17, 3) := by decide +kernel
theorem dL_bank_387 : decode cL_bank 387 = .ok (.aload_n 0, 1) := by decide +kernel
theorem dL_bank_388 : decode cL_bank 388 = .ok (.invokevirtual 63, 3) := by decide +kernel
theorem dL_bank_391 : decode cL_bank 391 = .ok (.iconst (-1), 1) := by decide +kernel
theorem dL_bank_392 : decode cL_bank 392 = .ok (.if_icmp .ne 7, 3) := by decide +kernel
theorem dL_bank_395 : decode cL_bank 395 = .ok (.iconst 1, 1) := by decide +kernel
theorem dL_bank_396 : decode cL_bank 396 = .ok (.goto 4, 3) := by decide +kernel
theorem dL_bank_399 : decode cL_bank 399 = .ok (.iconst 0, 1) := by decide +kernel
theorem dL_bank_400 : decode cL_bank 400 = .ok (.ireturn, 1) := by decide +kernel
theorem dL_bank_401 : decode cL_bank 401 = .ok (.aload_n 3, 1) := by decide +kernel
theorem dL_bank_402 : decode cL_bank 402 = .ok (.bipush 11, 2) := by decide +kernel
theorem dL_bank_404 : decode cL_bank 404 = .ok (.iload 6, 2) := by decide +kernel
theorem dL_bank_406 : decode cL_bank 406 = .ok (.iastore, 1) := by decide +kernel
theorem dL_bank_407 : decode cL_bank 407 = .ok (.aload_n 3, 1) := by decide +kernel
theorem dL_bank_408 : decode cL_bank 408 = .ok (.bipush 12, 2) := by decide +kernel
theorem dL_bank_410 : decode cL_bank 410 = .ok (.iload 7, 2) := by decide +kernel
theorem dL_bank_412 : decode cL_bank 412 = .ok (.iastore, 1) := by decide +kernel
theorem dL_bank_413 : decode cL_bank 413 = .ok (.aload_n 3, 1) := by decide +kernel
theorem dL_bank_414 : decode cL_bank 414 = .ok (.iconst 5, 1) := by decide +kernel
theorem dL_bank_415 : decode cL_bank 415 = .ok (.iaload, 1) := by decide +kernel
theorem dL_bank_416 : decode cL_bank 416 = .ok (.bipush 6, 2) := by decide +kernel
theorem dL_bank_418 : decode cL_bank 418 = .ok (.if_icmp .ge 10, 3) := by decide +kernel
theorem dL_bank_421 : decode cL_bank 421 = .ok (.aload_n 3, 1) := by decide +kernel
theorem dL_bank_422 : decode cL_bank 422 = .ok (.iconst 5, 1) := by decide +kernel
theorem dL_bank_423 : decode cL_bank 423 = .ok (.dup2, 1) := by decide +kernel
theorem dL_bank_424 : decode cL_bank 424 = .ok (.iaload, 1) := by decide +kernel
theorem dL_bank_425 : decode cL_bank 425 = .ok (.iconst 1, 1) := by decide +kernel
theorem dL_bank_426 : decode cL_bank 426 = .ok (.iadd, 1) := by decide +kernel
theorem dL_bank_427 : decode cL_bank 427 = .ok (.iastore, 1) := by decide +kernel
theorem dL_bank_428 : decode cL_bank 428 = .ok (.aload_n 0, 1) := by decide +kernel
theorem dL_bank_429 : decode cL_bank 429 = .ok (.iload 6, 2) := by decide +kernel
theorem dL_bank_431 : decode cL_bank 431 = .ok (.iload 7, 2) := by decide +kernel
theorem dL_bank_433 : decode cL_bank 433 = .ok (.invokevirtual 66, 3) := by decide +kernel
theorem dL_bank_436 : decode cL_bank 436 = .ok (.aload_n 3, 1) := by decide +kernel
theorem dL_bank_437 : decode cL_bank 437 = .ok (.aload 4, 2) := by decide +kernel
theorem dL_bank_439 : decode cL_bank 439 = .ok (.invokestatic 8, 3) := by decide +kernel
theorem dL_bank_442 : decode cL_bank 442 = .ok (.iconst 1, 1) := by decide +kernel
theorem dL_bank_443 : decode cL_bank 443 = .ok (.isub, 1) := by decide +kernel
theorem dL_bank_444 : decode cL_bank 444 = .ok (.if_icmp .ne 7, 3) := by decide +kernel
theorem dL_bank_447 : decode cL_bank 447 = .ok (.iconst 1, 1) := by decide +kernel
theorem dL_bank_448 : decode cL_bank 448 = .ok (.goto 4, 3) := by decide +kernel
theorem dL_bank_451 : decode cL_bank 451 = .ok (.iconst 0, 1) := by decide +kernel
theorem dL_bank_452 : decode cL_bank 452 = .ok (.ireturn, 1) := by decide +kernel
theorem dL_bank_453 : decode cL_bank 453 = .ok (.iload 5, 2) := by decide +kernel
theorem dL_bank_455 : decode cL_bank 455 = .ok (.iconst 3, 1) := by decide +kernel
theorem dL_bank_456 : decode cL_bank 456 = .ok (.if_icmp .ne 51, 3) := by decide +kernel
theorem dL_bank_459 : decode cL_bank 459 = .ok (.aload_n 3, 1) := by decide +kernel
theorem dL_bank_460 : decode cL_bank 460 = .ok (.bipush 13, 2) := by decide +kernel
theorem dL_bank_462 : decode cL_bank 462 = .ok (.iaload, 1) := by decide +kernel
theorem dL_bank_463 : decode cL_bank 463 = .ok (.aload_n 3, 1) := by decide +kernel
theorem dL_bank_464 : decode cL_bank 464 = .ok (.bipush 14, 2) := by decide +kernel
theorem dL_bank_466 : decode cL_bank 466 = .ok (.iaload, 1) := by decide +kernel
theorem dL_bank_467 : decode cL_bank 467 = .ok (.ior, 1) := by decide +kernel
theorem dL_bank_468 : decode cL_bank 468 = .ok (.invokestatic 14, 3) := by decide +kernel
theorem dL_bank_471 : decode cL_bank 471 = .ok (.istore 7, 2) := by decide +kernel
theorem dL_bank_473 : decode cL_bank 473 = .ok (.aload_n 3, 1) := by decide +kernel
theorem dL_bank_474 : decode cL_bank 474 = .ok (.invokestatic 18, 3) := by decide +kernel
theorem dL_bank_477 : decode cL_bank 477 = .ok (.aload_n 3, 1) := by decide +kernel
theorem dL_bank_478 : decode cL_bank 478 = .ok (.iconst 5, 1) := by decide +kernel
theorem dL_bank_479 : decode cL_bank 479 = .ok (.iaload, 1) := by decide +kernel
theorem dL_bank_480 : decode cL_bank 480 = .ok (.bipush 6, 2) := by decide +kernel
theorem dL_bank_482 : decode cL_bank 482 = .ok (.if_icmp .ge 10, 3) := by decide +kernel
theorem dL_bank_485 : decode cL_bank 485 = .ok (.aload_n 3, 1) := by decide +kernel
theorem dL_bank_486 : decode cL_bank 486 = .ok (.iconst 5, 1) := by decide +kernel
theorem dL_bank_487 : decode cL_bank 487 = .ok (.dup2, 1) := by decide +kernel
theorem dL_bank_488 : decode cL_bank 488 = .ok (.iaload, 1) := by decide +kernel
theorem dL_bank_489 : decode cL_bank 489 = .ok (.iconst 1, 1) := by decide +kernel
theorem dL_bank_490 : decode cL_bank 490 = .ok (.iadd, 1) := by decide +kernel
theorem dL_bank_491 : decode cL_bank 491 = .ok (.iastore, 1) := by decide +kernel
theorem dL_bank_492 : decode cL_bank 492 = .ok (.aload_n 0, 1) := by decide +kernel
theorem dL_bank_493 : decode cL_bank 493 = .ok (.invokevirtual 69, 3) := by decide +kernel
theorem dL_bank_496 : decode cL_bank 496 = .ok (.iload 7, 2) := by decide +kernel
theorem dL_bank_498 : decode cL_bank 498 = .ok (.if_icmp .ne 7, 3) := by decide +kernel
theorem dL_bank_501 : decode cL_bank 501 = .ok (.iconst 1, 1) := by decide +kernel
theorem dL_bank_502 : decode cL_bank 502 = .ok (.goto 4, 3) := by decide +kernel
theorem dL_bank_505 : decode cL_bank 505 = .ok (.iconst 0, 1) := by decide +kernel
theorem dL_bank_506 : decode cL_bank 506 = .ok (.ireturn, 1) := by decide +kernel
theorem dL_bank_507 : decode cL_bank 507 = .ok (.aload 4, 2) := by decide +kernel
theorem dL_bank_509 : decode cL_bank 509 = .ok (.bipush 16, 2) := by decide +kernel
theorem dL_bank_511 : decode cL_bank 511 = .ok (.iload 6, 2) := by decide +kernel
theorem dL_bank_513 : decode cL_bank 513 = .ok (.imul, 1) := by decide +kernel
theorem dL_bank_514 : decode cL_bank 514 = .ok (.iaload, 1) := by decide +kernel
theorem dL_bank_515 : decode cL_bank 515 = .ok (.ifCond .eq 30, 3) := by decide +kernel
theorem dL_bank_518 : decode cL_bank 518 = .ok (.iload 6, 2) := by decide +kernel
theorem dL_bank_520 : decode cL_bank 520 = .ok (.aload_n 3, 1) := by decide +kernel
theorem dL_bank_521 : decode cL_bank 521 = .ok (.bipush 11, 2) := by decide +kernel
theorem dL_bank_523 : decode cL_bank 523 = .ok (.iaload, 1) := by decide +kernel
theorem dL_bank_524 : decode cL_bank 524 = .ok (.if_icmp .eq 21, 3) := by decide +kernel
theorem dL_bank_527 : decode cL_bank 527 = .ok (.aload_n 3, 1) := by decide +kernel
theorem dL_bank_528 : decode cL_bank 528 = .ok (.bipush 13, 2) := by decide +kernel
theorem dL_bank_530 : decode cL_bank 530 = .ok (.iaload, 1) := by decide +kernel
theorem dL_bank_531 : decode cL_bank 531 = .ok (.aload_n 3, 1) := by decide +kernel
theorem dL_bank_532 : decode cL_bank 532 = .ok (.bipush 14, 2) := by decide +kernel
theorem dL_bank_534 : decode cL_bank 534 = .ok (.iaload, 1) := by decide +kernel
theorem dL_bank_535 : decode cL_bank 535 = .ok (.ior, 1) := by decide +kernel
theorem dL_bank_536 : decode cL_bank 536 = .ok (.iload 6, 2) := by decide +kernel
theorem dL_bank_538 : decode cL_bank 538 = .ok (.ishr, 1) := by decide +kernel
theorem dL_bank_539 : decode cL_bank 539 = .ok (.iconst 1, 1) := by decide +kernel
theorem dL_bank_540 : decode cL_bank 540 = .ok (.iand, 1) := by decide +kernel
theorem dL_bank_541 : decode cL_bank 541 = .ok (.iconst 1, 1) := by decide +kernel
theorem dL_bank_542 : decode cL_bank 542 = .ok (.if_icmp .ne 20, 3) := by decide +kernel
theorem dL_bank_545 : decode cL_bank 545 = .ok (.aload_n 0, 1) := by decide +kernel
theorem dL_bank_546 : decode cL_bank 546 = .ok (.iload 6, 2) := by decide +kernel
theorem dL_bank_548 : decode cL_bank 548 = .ok (.bipush 11, 2) := by decide +kernel
theorem dL_bank_550 : decode cL_bank 550 = .ok (.invokevirtual 72, 3) := by decide +kernel
theorem dL_bank_553 : decode cL_bank 553 = .ok (.ifCond .ne 7, 3) := by decide +kernel
theorem dL_bank_556 : decode cL_bank 556 = .ok (.iconst 1, 1) := by decide +kernel
theorem dL_bank_557 : decode cL_bank 557 = .ok (.goto 4, 3) := by decide +kernel
theorem dL_bank_560 : decode cL_bank 560 = .ok (.iconst 0, 1) := by decide +kernel
theorem dL_bank_561 : decode cL_bank 561 = .ok (.ireturn, 1) := by decide +kernel
theorem dL_bank_562 : decode cL_bank 562 = .ok (.iload_n 2, 1) := by decide +kernel
theorem dL_bank_563 : decode cL_bank 563 = .ok (.iconst 3, 1) := by decide +kernel
theorem dL_bank_564 : decode cL_bank 564 = .ok (.ishr, 1) := by decide +kernel
theorem dL_bank_565 : decode cL_bank 565 = .ok (.iconst 3, 1) := by decide +kernel
theorem dL_bank_566 : decode cL_bank 566 = .ok (.invokestatic 26, 3) := by decide +kernel
theorem dL_bank_569 : decode cL_bank 569 = .ok (.ifCond .le 7, 3) := by decide +kernel
theorem dL_bank_572 : decode cL_bank 572 = .ok (.iconst 1, 1) := by decide +kernel
theorem dL_bank_573 : decode cL_bank 573 = .ok (.goto 4, 3) := by decide +kernel
theorem dL_bank_576 : decode cL_bank 576 = .ok (.iconst 0, 1) := by decide +kernel
theorem dL_bank_577 : decode cL_bank 577 = .ok (.istore 7, 2) := by decide +kernel
theorem dL_bank_579 : decode cL_bank 579 = .ok (.iload 7, 2) := by decide +kernel
theorem dL_bank_581 : decode cL_bank 581 = .ok (.ifCond .eq 17, 3) := by decide +kernel
theorem dL_bank_584 : decode cL_bank 584 = .ok (.aload_n 3, 1) := by decide +kernel
theorem dL_bank_585 : decode cL_bank 585 = .ok (.bipush 13, 2) := by decide +kernel
theorem dL_bank_587 : decode cL_bank 587 = .ok (.dup2, 1) := by decide +kernel
theorem dL_bank_588 : decode cL_bank 588 = .ok (.iaload, 1) := by decide +kernel
theorem dL_bank_589 : decode cL_bank 589 = .ok (.iconst 1, 1) := by decide +kernel
theorem dL_bank_590 : decode cL_bank 590 = .ok (.iload 6, 2) := by decide +kernel
theorem dL_bank_592 : decode cL_bank 592 = .ok (.ishl, 1) := by decide +kernel
theorem dL_bank_593 : decode cL_bank 593 = .ok (.ior, 1) := by decide +kernel
theorem dL_bank_594 : decode cL_bank 594 = .ok (.iastore, 1) := by decide +kernel
theorem dL_bank_595 : decode cL_bank 595 = .ok (.goto 14, 3) := by decide +kernel
theorem dL_bank_598 : decode cL_bank 598 = .ok (.aload_n 3, 1) := by decide +kernel
theorem dL_bank_599 : decode cL_bank 599 = .ok (.bipush 14, 2) := by decide +kernel
theorem dL_bank_601 : decode cL_bank 601 = .ok (.dup2, 1) := by decide +kernel
theorem dL_bank_602 : decode cL_bank 602 = .ok (.iaload, 1) := by decide +kernel
theorem dL_bank_603 : decode cL_bank 603 = .ok (.iconst 1, 1) := by decide +kernel
theorem dL_bank_604 : decode cL_bank 604 = .ok (.iload 6, 2) := by decide +kernel
theorem dL_bank_606 : decode cL_bank 606 = .ok (.ishl, 1) := by decide +kernel
theorem dL_bank_607 : decode cL_bank 607 = .ok (.ior, 1) := by decide +kernel
theorem dL_bank_608 : decode cL_bank 608 = .ok (.iastore, 1) := by decide +kernel
theorem dL_bank_609 : decode cL_bank 609 = .ok (.aload_n 3, 1) := by decide +kernel
theorem dL_bank_610 : decode cL_bank 610 = .ok (.iconst 5, 1) := by decide +kernel
theorem dL_bank_611 : decode cL_bank 611 = .ok (.iaload, 1) := by decide +kernel
theorem dL_bank_612 : decode cL_bank 612 = .ok (.bipush 6, 2) := by decide +kernel
theorem dL_bank_614 : decode cL_bank 614 = .ok (.if_icmp .ge 10, 3) := by decide +kernel
theorem dL_bank_617 : decode cL_bank 617 = .ok (.aload_n 3, 1) := by decide +kernel
theorem dL_bank_618 : decode cL_bank 618 = .ok (.iconst 5, 1) := by decide +kernel
theorem dL_bank_619 : decode cL_bank 619 = .ok (.dup2, 1) := by decide +kernel
theorem dL_bank_620 : decode cL_bank 620 = .ok (.iaload, 1) := by decide +kernel
theorem dL_bank_621 : decode cL_bank 621 = .ok (.iconst 1, 1) := by decide +kernel
theorem dL_bank_622 : decode cL_bank 622 = .ok (.iadd, 1) := by decide +kernel
theorem dL_bank_623 : decode cL_bank 623 = .ok (.iastore, 1) := by decide +kernel
theorem dL_bank_624 : decode cL_bank 624 = .ok (.aload_n 0, 1) := by decide +kernel
theorem dL_bank_625 : decode cL_bank 625 = .ok (.iload 6, 2) := by decide +kernel
theorem dL_bank_627 : decode cL_bank 627 = .ok (.iload 7, 2) := by decide +kernel
theorem dL_bank_629 : decode cL_bank 629 = .ok (.invokevirtual 75, 3) := by decide +kernel
theorem dL_bank_632 : decode cL_bank 632 = .ok (.aload_n 3, 1) := by decide +kernel
theorem dL_bank_633 : decode cL_bank 633 = .ok (.aload 4, 2) := by decide +kernel
theorem dL_bank_635 : decode cL_bank 635 = .ok (.invokestatic 48, 3) := by decide +kernel
theorem dL_bank_638 : decode cL_bank 638 = .ok (.if_icmp .ne 7, 3) := by decide +kernel
theorem dL_bank_641 : decode cL_bank 641 = .ok (.iconst 1, 1) := by decide +kernel
theorem dL_bank_642 : decode cL_bank 642 = .ok (.goto 4, 3) := by decide +kernel
theorem dL_bank_645 : decode cL_bank 645 = .ok (.iconst 0, 1) := by decide +kernel
theorem dL_bank_646 : decode cL_bank 646 = .ok (.ireturn, 1) := by decide +kernel
theorem dL_agree_0 : decode cL_agree 0 = .ok (.aload_n 2, 1) := by decide +kernel
theorem dL_agree_1 : decode cL_agree 1 = .ok (.iconst 1, 1) := by decide +kernel
theorem dL_agree_2 : decode cL_agree 2 = .ok (.iaload, 1) := by decide +kernel
theorem dL_agree_3 : decode cL_agree 3 = .ok (.istore 4, 2) := by decide +kernel
theorem dL_agree_5 : decode cL_agree 5 = .ok (.iconst 0, 1) := by decide +kernel
theorem dL_agree_6 : decode cL_agree 6 = .ok (.istore 5, 2) := by decide +kernel
theorem dL_agree_8 : decode cL_agree 8 = .ok (.iload 5, 2) := by decide +kernel
theorem dL_agree_10 : decode cL_agree 10 = .ok (.aload_n 2, 1) := by decide +kernel
theorem dL_agree_11 : decode cL_agree 11 = .ok (.iconst 0, 1) := by decide +kernel
theorem dL_agree_12 : decode cL_agree 12 = .ok (.iaload, 1) := by decide +kernel
theorem dL_agree_13 : decode cL_agree 13 = .ok (.if_icmp .ge 104, 3) := by decide +kernel
theorem dL_agree_16 : decode cL_agree 16 = .ok (.iload 4, 2) := by decide +kernel
theorem dL_agree_18 : decode cL_agree 18 = .ok (.aload_n 3, 1) := by decide +kernel
theorem dL_agree_19 : decode cL_agree 19 = .ok (.bipush 16, 2) := by decide +kernel
theorem dL_agree_21 : decode cL_agree 21 = .ok (.iload 5, 2) := by decide +kernel
theorem dL_agree_23 : decode cL_agree 23 = .ok (.imul, 1) := by decide +kernel
theorem dL_agree_24 : decode cL_agree 24 = .ok (.iconst 1, 1) := by decide +kernel
theorem dL_agree_25 : decode cL_agree 25 = .ok (.iadd, 1) := by decide +kernel
theorem dL_agree_26 : decode cL_agree 26 = .ok (.iaload, 1) := by decide +kernel
theorem dL_agree_27 : decode cL_agree 27 = .ok (.iadd, 1) := by decide +kernel
theorem dL_agree_28 : decode cL_agree 28 = .ok (.istore 4, 2) := by decide +kernel
theorem dL_agree_30 : decode cL_agree 30 = .ok (.iconst 0, 1) := by decide +kernel
theorem dL_agree_31 : decode cL_agree 31 = .ok (.istore 6, 2) := by decide +kernel
theorem dL_agree_33 : decode cL_agree 33 = .ok (.iload 6, 2) := by decide +kernel
theorem dL_agree_35 : decode cL_agree 35 = .ok (.bipush 11, 2) := by decide +kernel
theorem dL_agree_37 : decode cL_agree 37 = .ok (.if_icmp .ge 32, 3) := by decide +kernel
theorem dL_agree_40 : decode cL_agree 40 = .ok (.aload_n 0, 1) := by decide +kernel
theorem dL_agree_41 : decode cL_agree 41 = .ok (.iload 5, 2) := by decide +kernel
theorem dL_agree_43 : decode cL_agree 43 = .ok (.iload 6, 2) := by decide +kernel
theorem dL_agree_45 : decode cL_agree 45 = .ok (.invokevirtual 72, 3) := by decide +kernel
theorem dL_agree_48 : decode cL_agree 48 = .ok (.aload_n 3, 1) := by decide +kernel
theorem dL_agree_49 : decode cL_agree 49 = .ok (.bipush 16, 2) := by decide +kernel
theorem dL_agree_51 : decode cL_agree 51 = .ok (.iload 5, 2) := by decide +kernel
theorem dL_agree_53 : decode cL_agree 53 = .ok (.imul, 1) := by decide +kernel
theorem dL_agree_54 : decode cL_agree 54 = .ok (.iload 6, 2) := by decide +kernel
theorem dL_agree_56 : decode cL_agree 56 = .ok (.iadd, 1) := by decide +kernel
theorem dL_agree_57 : decode cL_agree 57 = .ok (.iaload, 1) := by decide +kernel
theorem dL_agree_58 : decode cL_agree 58 = .ok (.if_icmp .eq 5, 3) := by decide +kernel
theorem dL_agree_61 : decode cL_agree 61 = .ok (.iconst 0, 1) := by decide +kernel
theorem dL_agree_62 : decode cL_agree 62 = .ok (.ireturn, 1) := by decide +kernel
theorem dL_agree_63 : decode cL_agree 63 = .ok (.iinc 6 1, 3) := by decide +kernel
theorem dL_agree_66 : decode cL_agree 66 = .ok (.goto (-33), 3) := by decide +kernel
theorem dL_agree_69 : decode cL_agree 69 = .ok (.iconst 0, 1) := by decide +kernel
theorem dL_agree_70 : decode cL_agree 70 = .ok (.istore 6, 2) := by decide +kernel
theorem dL_agree_72 : decode cL_agree 72 = .ok (.iload 6, 2) := by decide +kernel
theorem dL_agree_74 : decode cL_agree 74 = .ok (.iconst 5, 1) := by decide +kernel
theorem dL_agree_75 : decode cL_agree 75 = .ok (.if_icmp .ge 36, 3) := by decide +kernel
theorem dL_agree_78 : decode cL_agree 78 = .ok (.aload_n 0, 1) := by decide +kernel
theorem dL_agree_79 : decode cL_agree 79 = .ok (.iload 5, 2) := by decide +kernel
theorem dL_agree_81 : decode cL_agree 81 = .ok (.iload 6, 2) := by decide +kernel
theorem dL_agree_83 : decode cL_agree 83 = .ok (.iconst 0, 1) := by decide +kernel
theorem dL_agree_84 : decode cL_agree 84 = .ok (.invokevirtual 79, 3) := by decide +kernel
theorem dL_agree_87 : decode cL_agree 87 = .ok (.aload_n 3, 1) := by decide +kernel
theorem dL_agree_88 : decode cL_agree 88 = .ok (.bipush 16, 2) := by decide +kernel
theorem dL_agree_90 : decode cL_agree 90 = .ok (.iload 5, 2) := by decide +kernel
theorem dL_agree_92 : decode cL_agree 92 = .ok (.imul, 1) := by decide +kernel
theorem dL_agree_93 : decode cL_agree 93 = .ok (.bipush 11, 2) := by decide +kernel
theorem dL_agree_95 : decode cL_agree 95 = .ok (.iadd, 1) := by decide +kernel
theorem dL_agree_96 : decode cL_agree 96 = .ok (.iload 6, 2) := by decide +kernel
theorem dL_agree_98 : decode cL_agree 98 = .ok (.iadd, 1) := by decide +kernel
theorem dL_agree_99 : decode cL_agree 99 = .ok (.iaload, 1) := by decide +kernel
theorem dL_agree_100 : decode cL_agree 100 = .ok (.if_icmp .eq 5, 3) := by decide +kernel
theorem dL_agree_103 : decode cL_agree 103 = .ok (.iconst 0, 1) := by decide +kernel
theorem dL_agree_104 : decode cL_agree 104 = .ok (.ireturn, 1) := by decide +kernel
theorem dL_agree_105 : decode cL_agree 105 = .ok (.iinc 6 1, 3) := by decide +kernel
theorem dL_agree_108 : decode cL_agree 108 = .ok (.goto (-36), 3) := by decide +kernel
theorem dL_agree_111 : decode cL_agree 111 = .ok (.iinc 5 1, 3) := by decide +kernel
theorem dL_agree_114 : decode cL_agree 114 = .ok (.goto (-106), 3) := by decide +kernel
theorem dL_agree_117 : decode cL_agree 117 = .ok (.iload_n 1, 1) := by decide +kernel
theorem dL_agree_118 : decode cL_agree 118 = .ok (.aload_n 2, 1) := by decide +kernel
theorem dL_agree_119 : decode cL_agree 119 = .ok (.iconst 0, 1) := by decide +kernel
theorem dL_agree_120 : decode cL_agree 120 = .ok (.iaload, 1) := by decide +kernel
theorem dL_agree_121 : decode cL_agree 121 = .ok (.invokestatic 26, 3) := by decide +kernel
theorem dL_agree_124 : decode cL_agree 124 = .ok (.istore 5, 2) := by decide +kernel
theorem dL_agree_126 : decode cL_agree 126 = .ok (.iconst (-1), 1) := by decide +kernel
theorem dL_agree_127 : decode cL_agree 127 = .ok (.istore 6, 2) := by decide +kernel
theorem dL_agree_129 : decode cL_agree 129 = .ok (.aload_n 2, 1) := by decide +kernel
theorem dL_agree_130 : decode cL_agree 130 = .ok (.iconst 0, 1) := by decide +kernel
theorem dL_agree_131 : decode cL_agree 131 = .ok (.iaload, 1) := by decide +kernel
theorem dL_agree_132 : decode cL_agree 132 = .ok (.iconst 1, 1) := by decide +kernel
theorem dL_agree_133 : decode cL_agree 133 = .ok (.isub, 1) := by decide +kernel
theorem dL_agree_134 : decode cL_agree 134 = .ok (.istore 7, 2) := by decide +kernel
theorem dL_agree_136 : decode cL_agree 136 = .ok (.iload 7, 2) := by decide +kernel
theorem dL_agree_138 : decode cL_agree 138 = .ok (.ifCond .lt 89, 3) := by decide +kernel
theorem dL_agree_141 : decode cL_agree 141 = .ok (.aload_n 2, 1) := by decide +kernel
theorem dL_agree_142 : decode cL_agree 142 = .ok (.aload_n 3, 1) := by decide +kernel
theorem dL_agree_143 : decode cL_agree 143 = .ok (.iload 7, 2) := by decide +kernel
theorem dL_agree_145 : decode cL_agree 145 = .ok (.iload 5, 2) := by decide +kernel
theorem dL_agree_147 : decode cL_agree 147 = .ok (.iconst 1, 1) := by decide +kernel
theorem dL_agree_148 : decode cL_agree 148 = .ok (.bipush 60, 2) := by decide +kernel
theorem dL_agree_150 : decode cL_agree 150 = .ok (.invokestatic 36, 3) := by decide +kernel
theorem dL_agree_153 : decode cL_agree 153 = .ok (.ifCond .eq 68, 3) := by decide +kernel
theorem dL_agree_156 : decode cL_agree 156 = .ok (.iload 6, 2) := by decide +kernel
theorem dL_agree_158 : decode cL_agree 158 = .ok (.ifCond .ge 7, 3) := by decide +kernel
theorem dL_agree_161 : decode cL_agree 161 = .ok (.iconst 1, 1) := by decide +kernel
theorem dL_agree_162 : decode cL_agree 162 = .ok (.goto 22, 3) := by decide +kernel
theorem dL_agree_165 : decode cL_agree 165 = .ok (.aload_n 3, 1) := by decide +kernel
theorem dL_agree_166 : decode cL_agree 166 = .ok (.iload 6, 2) := by decide +kernel
theorem dL_agree_168 : decode cL_agree 168 = .ok (.iconst 1, 1) := by decide +kernel
theorem dL_agree_169 : decode cL_agree 169 = .ok (.bipush 60, 2) := by decide +kernel
theorem dL_agree_171 : decode cL_agree 171 = .ok (.invokestatic 22, 3) := by decide +kernel
theorem dL_agree_174 : decode cL_agree 174 = .ok (.aload_n 3, 1) := by decide +kernel
theorem dL_agree_175 : decode cL_agree 175 = .ok (.iload 7, 2) := by decide +kernel
theorem dL_agree_177 : decode cL_agree 177 = .ok (.iconst 1, 1) := by decide +kernel
theorem dL_agree_178 : decode cL_agree 178 = .ok (.bipush 60, 2) := by decide +kernel
theorem dL_agree_180 : decode cL_agree 180 = .ok (.invokestatic 22, 3) := by decide +kernel
theorem dL_agree_183 : decode cL_agree 183 = .ok (.isub, 1) := by decide +kernel
theorem dL_agree_184 : decode cL_agree 184 = .ok (.istore 8, 2) := by decide +kernel
theorem dL_agree_186 : decode cL_agree 186 = .ok (.iload 8, 2) := by decide +kernel
theorem dL_agree_188 : decode cL_agree 188 = .ok (.ifCond .gt 29, 3) := by decide +kernel
theorem dL_agree_191 : decode cL_agree 191 = .ok (.iload 8, 2) := by decide +kernel
theorem dL_agree_193 : decode cL_agree 193 = .ok (.ifCond .ne 28, 3) := by decide +kernel
theorem dL_agree_196 : decode cL_agree 196 = .ok (.aload_n 3, 1) := by decide +kernel
theorem dL_agree_197 : decode cL_agree 197 = .ok (.bipush 16, 2) := by decide +kernel
theorem dL_agree_199 : decode cL_agree 199 = .ok (.iload 7, 2) := by decide +kernel
theorem dL_agree_201 : decode cL_agree 201 = .ok (.imul, 1) := by decide +kernel
theorem dL_agree_202 : decode cL_agree 202 = .ok (.iconst 1, 1) := by decide +kernel
theorem dL_agree_203 : decode cL_agree 203 = .ok (.iadd, 1) := by decide +kernel
theorem dL_agree_204 : decode cL_agree 204 = .ok (.iaload, 1) := by decide +kernel
theorem dL_agree_205 : decode cL_agree 205 = .ok (.aload_n 3, 1) := by decide +kernel
theorem dL_agree_206 : decode cL_agree 206 = .ok (.bipush 16, 2) := by decide +kernel
theorem dL_agree_208 : decode cL_agree 208 = .ok (.iload 6, 2) := by decide +kernel
theorem dL_agree_210 : decode cL_agree 210 = .ok (.imul, 1) := by decide +kernel
theorem dL_agree_211 : decode cL_agree 211 = .ok (.iconst 1, 1) := by decide +kernel
theorem dL_agree_212 : decode cL_agree 212 = .ok (.iadd, 1) := by decide +kernel
theorem dL_agree_213 : decode cL_agree 213 = .ok (.iaload, 1) := by decide +kernel
theorem dL_agree_214 : decode cL_agree 214 = .ok (.if_icmp .gt 7, 3) := by decide +kernel
theorem dL_agree_217 : decode cL_agree 217 = .ok (.iload 7, 2) := by decide +kernel
theorem dL_agree_219 : decode cL_agree 219 = .ok (.istore 6, 2) := by decide +kernel
theorem dL_agree_221 : decode cL_agree 221 = .ok (.iinc 7 (-1), 3) := by decide +kernel
theorem dL_agree_224 : decode cL_agree 224 = .ok (.goto (-88), 3) := by decide +kernel
theorem dL_agree_227 : decode cL_agree 227 = .ok (.aload_n 0, 1) := by decide +kernel
theorem dL_agree_228 : decode cL_agree 228 = .ok (.iload 5, 2) := by decide +kernel
theorem dL_agree_230 : decode cL_agree 230 = .ok (.iconst 1, 1) := by decide +kernel
theorem dL_agree_231 : decode cL_agree 231 = .ok (.bipush 60, 2) := by decide +kernel
theorem dL_agree_233 : decode cL_agree 233 = .ok (.invokevirtual 82, 3) := by decide +kernel
theorem dL_agree_236 : decode cL_agree 236 = .ok (.iload 6, 2) := by decide +kernel
theorem dL_agree_238 : decode cL_agree 238 = .ok (.if_icmp .eq 5, 3) := by decide +kernel
theorem dL_agree_241 : decode cL_agree 241 = .ok (.iconst 0, 1) := by decide +kernel
theorem dL_agree_242 : decode cL_agree 242 = .ok (.ireturn, 1) := by decide +kernel
theorem dL_agree_243 : decode cL_agree 243 = .ok (.iload 4, 2) := by decide +kernel
theorem dL_agree_245 : decode cL_agree 245 = .ok (.aload_n 2, 1) := by decide +kernel
theorem dL_agree_246 : decode cL_agree 246 = .ok (.iconst 2, 1) := by decide +kernel
theorem dL_agree_247 : decode cL_agree 247 = .ok (.iaload, 1) := by decide +kernel
theorem dL_agree_248 : decode cL_agree 248 = .ok (.if_icmp .ne 145, 3) := by decide +kernel
theorem dL_agree_251 : decode cL_agree 251 = .ok (.aload_n 0, 1) := by decide +kernel
theorem dL_agree_252 : decode cL_agree 252 = .ok (.iconst 0, 1) := by decide +kernel
theorem dL_agree_253 : decode cL_agree 253 = .ok (.invokevirtual 85, 3) := by decide +kernel
theorem dL_agree_256 : decode cL_agree 256 = .ok (.aload_n 2, 1) := by decide +kernel
theorem dL_agree_257 : decode cL_agree 257 = .ok (.iconst 0, 1) := by decide +kernel
theorem dL_agree_258 : decode cL_agree 258 = .ok (.iaload, 1) := by decide +kernel
theorem dL_agree_259 : decode cL_agree 259 = .ok (.if_icmp .ne 134, 3) := by decide +kernel
theorem dL_agree_262 : decode cL_agree 262 = .ok (.aload_n 0, 1) := by decide +kernel
theorem dL_agree_263 : decode cL_agree 263 = .ok (.iconst 1, 1) := by decide +kernel
theorem dL_agree_264 : decode cL_agree 264 = .ok (.invokevirtual 85, 3) := by decide +kernel
theorem dL_agree_267 : decode cL_agree 267 = .ok (.aload_n 2, 1) := by decide +kernel
theorem dL_agree_268 : decode cL_agree 268 = .ok (.aload_n 3, 1) := by decide +kernel
theorem dL_agree_269 : decode cL_agree 269 = .ok (.invokestatic 8, 3) := by decide +kernel
theorem dL_agree_272 : decode cL_agree 272 = .ok (.if_icmp .ne 121, 3) := by decide +kernel
theorem dL_agree_275 : decode cL_agree 275 = .ok (.aload_n 0, 1) := by decide +kernel
theorem dL_agree_276 : decode cL_agree 276 = .ok (.iconst 2, 1) := by decide +kernel
theorem dL_agree_277 : decode cL_agree 277 = .ok (.invokevirtual 85, 3) := by decide +kernel
theorem dL_agree_280 : decode cL_agree 280 = .ok (.aload_n 2, 1) := by decide +kernel
theorem dL_agree_281 : decode cL_agree 281 = .ok (.iconst 1, 1) := by decide +kernel
theorem dL_agree_282 : decode cL_agree 282 = .ok (.iaload, 1) := by decide +kernel
theorem dL_agree_283 : decode cL_agree 283 = .ok (.if_icmp .ne 110, 3) := by decide +kernel
theorem dL_agree_286 : decode cL_agree 286 = .ok (.aload_n 0, 1) := by decide +kernel
theorem dL_agree_287 : decode cL_agree 287 = .ok (.iconst 3, 1) := by decide +kernel
theorem dL_agree_288 : decode cL_agree 288 = .ok (.invokevirtual 85, 3) := by decide +kernel
theorem dL_agree_291 : decode cL_agree 291 = .ok (.aload_n 2, 1) := by decide +kernel
theorem dL_agree_292 : decode cL_agree 292 = .ok (.iconst 2, 1) := by decide +kernel
theorem dL_agree_293 : decode cL_agree 293 = .ok (.iaload, 1) := by decide +kernel
theorem dL_agree_294 : decode cL_agree 294 = .ok (.if_icmp .ne 99, 3) := by decide +kernel
theorem dL_agree_297 : decode cL_agree 297 = .ok (.aload_n 0, 1) := by decide +kernel
theorem dL_agree_298 : decode cL_agree 298 = .ok (.iconst 4, 1) := by decide +kernel
theorem dL_agree_299 : decode cL_agree 299 = .ok (.invokevirtual 85, 3) := by decide +kernel
theorem dL_agree_302 : decode cL_agree 302 = .ok (.aload_n 2, 1) := by decide +kernel
theorem dL_agree_303 : decode cL_agree 303 = .ok (.iconst 3, 1) := by decide +kernel
theorem dL_agree_304 : decode cL_agree 304 = .ok (.iaload, 1) := by decide +kernel
theorem dL_agree_305 : decode cL_agree 305 = .ok (.if_icmp .ne 88, 3) := by decide +kernel
theorem dL_agree_308 : decode cL_agree 308 = .ok (.aload_n 0, 1) := by decide +kernel
theorem dL_agree_309 : decode cL_agree 309 = .ok (.iconst 5, 1) := by decide +kernel
theorem dL_agree_310 : decode cL_agree 310 = .ok (.invokevirtual 85, 3) := by decide +kernel
theorem dL_agree_313 : decode cL_agree 313 = .ok (.aload_n 2, 1) := by decide +kernel
theorem dL_agree_314 : decode cL_agree 314 = .ok (.iconst 4, 1) := by decide +kernel
theorem dL_agree_315 : decode cL_agree 315 = .ok (.iaload, 1) := by decide +kernel
theorem dL_agree_316 : decode cL_agree 316 = .ok (.if_icmp .ne 77, 3) := by decide +kernel
theorem dL_agree_319 : decode cL_agree 319 = .ok (.aload_n 0, 1) := by decide +kernel
theorem dL_agree_320 : decode cL_agree 320 = .ok (.bipush 9, 2) := by decide +kernel
theorem dL_agree_322 : decode cL_agree 322 = .ok (.invokevirtual 85, 3) := by decide +kernel
theorem dL_agree_325 : decode cL_agree 325 = .ok (.aload_n 2, 1) := by decide +kernel
theorem dL_agree_326 : decode cL_agree 326 = .ok (.bipush 11, 2) := by decide +kernel
theorem dL_agree_328 : decode cL_agree 328 = .ok (.iaload, 1) := by decide +kernel
theorem dL_agree_329 : decode cL_agree 329 = .ok (.if_icmp .ne 64, 3) := by decide +kernel
theorem dL_agree_332 : decode cL_agree 332 = .ok (.aload_n 0, 1) := by decide +kernel
theorem dL_agree_333 : decode cL_agree 333 = .ok (.bipush 10, 2) := by decide +kernel
theorem dL_agree_335 : decode cL_agree 335 = .ok (.invokevirtual 85, 3) := by decide +kernel
theorem dL_agree_338 : decode cL_agree 338 = .ok (.aload_n 2, 1) := by decide +kernel
theorem dL_agree_339 : decode cL_agree 339 = .ok (.bipush 12, 2) := by decide +kernel
theorem dL_agree_341 : decode cL_agree 341 = .ok (.iaload, 1) := by decide +kernel
theorem dL_agree_342 : decode cL_agree 342 = .ok (.if_icmp .ne 51, 3) := by decide +kernel
theorem dL_agree_345 : decode cL_agree 345 = .ok (.aload_n 0, 1) := by decide +kernel
theorem dL_agree_346 : decode cL_agree 346 = .ok (.bipush 11, 2) := by decide +kernel
theorem dL_agree_348 : decode cL_agree 348 = .ok (.invokevirtual 85, 3) := by decide +kernel
theorem dL_agree_351 : decode cL_agree 351 = .ok (.aload_n 2, 1) := by decide +kernel
theorem dL_agree_352 : decode cL_agree 352 = .ok (.bipush 13, 2) := by decide +kernel
theorem dL_agree_354 : decode cL_agree 354 = .ok (.iaload, 1) := by decide +kernel
theorem dL_agree_355 : decode cL_agree 355 = .ok (.invokestatic 14, 3) := by decide +kernel
theorem dL_agree_358 : decode cL_agree 358 = .ok (.if_icmp .ne 35, 3) := by decide +kernel
theorem dL_agree_361 : decode cL_agree 361 = .ok (.aload_n 0, 1) := by decide +kernel
theorem dL_agree_362 : decode cL_agree 362 = .ok (.bipush 12, 2) := by decide +kernel
theorem dL_agree_364 : decode cL_agree 364 = .ok (.invokevirtual 85, 3) := by decide +kernel
theorem dL_agree_367 : decode cL_agree 367 = .ok (.aload_n 2, 1) := by decide +kernel
theorem dL_agree_368 : decode cL_agree 368 = .ok (.bipush 14, 2) := by decide +kernel
theorem dL_agree_370 : decode cL_agree 370 = .ok (.iaload, 1) := by decide +kernel
theorem dL_agree_371 : decode cL_agree 371 = .ok (.invokestatic 14, 3) := by decide +kernel
theorem dL_agree_374 : decode cL_agree 374 = .ok (.if_icmp .ne 19, 3) := by decide +kernel
theorem dL_agree_377 : decode cL_agree 377 = .ok (.aload_n 0, 1) := by decide +kernel
theorem dL_agree_378 : decode cL_agree 378 = .ok (.bipush 13, 2) := by decide +kernel
theorem dL_agree_380 : decode cL_agree 380 = .ok (.invokevirtual 85, 3) := by decide +kernel
theorem dL_agree_383 : decode cL_agree 383 = .ok (.aload_n 2, 1) := by decide +kernel
theorem dL_agree_384 : decode cL_agree 384 = .ok (.iconst 5, 1) := by decide +kernel
theorem dL_agree_385 : decode cL_agree 385 = .ok (.iaload, 1) := by decide +kernel
theorem dL_agree_386 : decode cL_agree 386 = .ok (.if_icmp .ne 7, 3) := by decide +kernel
theorem dL_agree_389 : decode cL_agree 389 = .ok (.iconst 1, 1) := by decide +kernel
theorem dL_agree_390 : decode cL_agree 390 = .ok (.goto 4, 3) := by decide +kernel
theorem dL_agree_393 : decode cL_agree 393 = .ok (.iconst 0, 1) := by decide +kernel
theorem dL_agree_394 : decode cL_agree 394 = .ok (.ireturn, 1) := by decide +kernel
theorem dL_law_0 : decode cL_law 0 = .ok (.new 31, 3) := by decide +kernel
theorem dL_law_3 : decode cL_law 3 = .ok (.dup, 1) := by decide +kernel
theorem dL_law_4 : decode cL_law 4 = .ok (.invokespecial 88, 3) := by decide +kernel
theorem dL_law_7 : decode cL_law 7 = .ok (.astore_n 1, 1) := by decide +kernel
theorem dL_law_8 : decode cL_law 8 = .ok (.bipush 15, 2) := by decide +kernel
theorem dL_law_10 : decode cL_law 10 = .ok (.newarray .int, 2) := by decide +kernel
theorem dL_law_12 : decode cL_law 12 = .ok (.astore_n 2, 1) := by decide +kernel
theorem dL_law_13 : decode cL_law 13 = .ok (.bipush 64, 2) := by decide +kernel
theorem dL_law_15 : decode cL_law 15 = .ok (.newarray .int, 2) := by decide +kernel
theorem dL_law_17 : decode cL_law 17 = .ok (.astore_n 3, 1) := by decide +kernel
theorem dL_law_18 : decode cL_law 18 = .ok (.aload_n 2, 1) := by decide +kernel
theorem dL_law_19 : decode cL_law 19 = .ok (.bipush 6, 2) := by decide +kernel
theorem dL_law_21 : decode cL_law 21 = .ok (.sipush 600, 3) := by decide +kernel
theorem dL_law_24 : decode cL_law 24 = .ok (.iastore, 1) := by decide +kernel
theorem dL_law_25 : decode cL_law 25 = .ok (.aload_n 2, 1) := by decide +kernel
theorem dL_law_26 : decode cL_law 26 = .ok (.bipush 7, 2) := by decide +kernel
theorem dL_law_28 : decode cL_law 28 = .ok (.bipush 120, 2) := by decide +kernel
theorem dL_law_30 : decode cL_law 30 = .ok (.iastore, 1) := by decide +kernel
theorem dL_law_31 : decode cL_law 31 = .ok (.aload_n 2, 1) := by decide +kernel
theorem dL_law_32 : decode cL_law 32 = .ok (.bipush 8, 2) := by decide +kernel
theorem dL_law_34 : decode cL_law 34 = .ok (.iconst 4, 1) := by decide +kernel
theorem dL_law_35 : decode cL_law 35 = .ok (.iastore, 1) := by decide +kernel
theorem dL_law_36 : decode cL_law 36 = .ok (.aload_n 2, 1) := by decide +kernel
theorem dL_law_37 : decode cL_law 37 = .ok (.bipush 9, 2) := by decide +kernel
theorem dL_law_39 : decode cL_law 39 = .ok (.bipush 10, 2) := by decide +kernel
theorem dL_law_41 : decode cL_law 41 = .ok (.iastore, 1) := by decide +kernel
theorem dL_law_42 : decode cL_law 42 = .ok (.aload_n 2, 1) := by decide +kernel
theorem dL_law_43 : decode cL_law 43 = .ok (.bipush 10, 2) := by decide +kernel
theorem dL_law_45 : decode cL_law 45 = .ok (.bipush 30, 2) := by decide +kernel
theorem dL_law_47 : decode cL_law 47 = .ok (.iastore, 1) := by decide +kernel
theorem dL_law_48 : decode cL_law 48 = .ok (.aload_n 2, 1) := by decide +kernel
theorem dL_law_49 : decode cL_law 49 = .ok (.bipush 11, 2) := by decide +kernel
theorem dL_law_51 : decode cL_law 51 = .ok (.iconst (-1), 1) := by decide +kernel
theorem dL_law_52 : decode cL_law 52 = .ok (.iastore, 1) := by decide +kernel
theorem dL_law_53 : decode cL_law 53 = .ok (.iconst 0, 1) := by decide +kernel
theorem dL_law_54 : decode cL_law 54 = .ok (.istore 4, 2) := by decide +kernel
theorem dL_law_56 : decode cL_law 56 = .ok (.iload 4, 2) := by decide +kernel
theorem dL_law_58 : decode cL_law 58 = .ok (.bipush 60, 2) := by decide +kernel
theorem dL_law_60 : decode cL_law 60 = .ok (.if_icmp .ge 94, 3) := by decide +kernel
theorem dL_law_63 : decode cL_law 63 = .ok (.aload_n 0, 1) := by decide +kernel
theorem dL_law_64 : decode cL_law 64 = .ok (.iconst 2, 1) := by decide +kernel
theorem dL_law_65 : decode cL_law 65 = .ok (.iload 4, 2) := by decide +kernel
theorem dL_law_67 : decode cL_law 67 = .ok (.imul, 1) := by decide +kernel
theorem dL_law_68 : decode cL_law 68 = .ok (.invokestatic 89, 3) := by decide +kernel
theorem dL_law_71 : decode cL_law 71 = .ok (.istore 5, 2) := by decide +kernel
theorem dL_law_73 : decode cL_law 73 = .ok (.aload_n 0, 1) := by decide +kernel
theorem dL_law_74 : decode cL_law 74 = .ok (.iconst 2, 1) := by decide +kernel
theorem dL_law_75 : decode cL_law 75 = .ok (.iload 4, 2) := by decide +kernel
theorem dL_law_77 : decode cL_law 77 = .ok (.imul, 1) := by decide +kernel
theorem dL_law_78 : decode cL_law 78 = .ok (.iconst 1, 1) := by decide +kernel
theorem dL_law_79 : decode cL_law 79 = .ok (.iadd, 1) := by decide +kernel
theorem dL_law_80 : decode cL_law 80 = .ok (.invokestatic 89, 3) := by decide +kernel
theorem dL_law_83 : decode cL_law 83 = .ok (.istore 6, 2) := by decide +kernel
theorem dL_law_85 : decode cL_law 85 = .ok (.iload 4, 2) := by decide +kernel
theorem dL_law_87 : decode cL_law 87 = .ok (.iconst 2, 1) := by decide +kernel
theorem dL_law_88 : decode cL_law 88 = .ok (.if_icmp .lt 18, 3) := by decide +kernel
theorem dL_law_91 : decode cL_law 91 = .ok (.iload 5, 2) := by decide +kernel
theorem dL_law_93 : decode cL_law 93 = .ok (.bipush 20, 2) := by decide +kernel
theorem dL_law_95 : decode cL_law 95 = .ok (.ishr, 1) := by decide +kernel
theorem dL_law_96 : decode cL_law 96 = .ok (.bipush 10, 2) := by decide +kernel
theorem dL_law_98 : decode cL_law 98 = .ok (.invokestatic 26, 3) := by decide +kernel
theorem dL_law_101 : decode cL_law 101 = .ok (.bipush 6, 2) := by decide +kernel
theorem dL_law_103 : decode cL_law 103 = .ok (.if_icmp .ge 19, 3) := by decide +kernel
theorem dL_law_106 : decode cL_law 106 = .ok (.aload_n 1, 1) := by decide +kernel
theorem dL_law_107 : decode cL_law 107 = .ok (.iload 5, 2) := by decide +kernel
theorem dL_law_109 : decode cL_law 109 = .ok (.iload 6, 2) := by decide +kernel
theorem dL_law_111 : decode cL_law 111 = .ok (.aload_n 2, 1) := by decide +kernel
theorem dL_law_112 : decode cL_law 112 = .ok (.aload_n 3, 1) := by decide +kernel
theorem dL_law_113 : decode cL_law 113 = .ok (.invokestatic 93, 3) := by decide +kernel
theorem dL_law_116 : decode cL_law 116 = .ok (.ifCond .eq 30, 3) := by decide +kernel
theorem dL_law_119 : decode cL_law 119 = .ok (.goto 16, 3) := by decide +kernel
theorem dL_law_122 : decode cL_law 122 = .ok (.aload_n 1, 1) := by decide +kernel
theorem dL_law_123 : decode cL_law 123 = .ok (.iload 5, 2) := by decide +kernel
theorem dL_law_125 : decode cL_law 125 = .ok (.iload 6, 2) := by decide +kernel
theorem dL_law_127 : decode cL_law 127 = .ok (.aload_n 2, 1) := by decide +kernel
theorem dL_law_128 : decode cL_law 128 = .ok (.aload_n 3, 1) := by decide +kernel
theorem dL_law_129 : decode cL_law 129 = .ok (.invokestatic 97, 3) := by decide +kernel
theorem dL_law_132 : decode cL_law 132 = .ok (.ifCond .eq 14, 3) := by decide +kernel
theorem dL_law_135 : decode cL_law 135 = .ok (.aload_n 1, 1) := by decide +kernel
theorem dL_law_136 : decode cL_law 136 = .ok (.iload 6, 2) := by decide +kernel
theorem dL_law_138 : decode cL_law 138 = .ok (.aload_n 2, 1) := by decide +kernel
theorem dL_law_139 : decode cL_law 139 = .ok (.aload_n 3, 1) := by decide +kernel
theorem dL_law_140 : decode cL_law 140 = .ok (.invokestatic 100, 3) := by decide +kernel
theorem dL_law_143 : decode cL_law 143 = .ok (.ifCond .ne 5, 3) := by decide +kernel
theorem dL_law_146 : decode cL_law 146 = .ok (.iconst 0, 1) := by decide +kernel
theorem dL_law_147 : decode cL_law 147 = .ok (.ireturn, 1) := by decide +kernel
theorem dL_law_148 : decode cL_law 148 = .ok (.iinc 4 1, 3) := by decide +kernel
theorem dL_law_151 : decode cL_law 151 = .ok (.goto (-95), 3) := by decide +kernel
theorem dL_law_154 : decode cL_law 154 = .ok (.iconst 1, 1) := by decide +kernel
theorem dL_law_155 : decode cL_law 155 = .ok (.ireturn, 1) := by decide +kernel
