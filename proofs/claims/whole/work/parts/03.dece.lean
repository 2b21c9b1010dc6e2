theorem dX7_goesOne_17 : decode cX7_goesOne 17 = .ok (.getfield 13, 3) := by decide +kernel
theorem dX7_goesOne_20 : decode cX7_goesOne 20 = .ok (.iconst 0, 1) := by decide +kernel
theorem dX7_goesOne_21 : decode cX7_goesOne 21 = .ok (.iload_n 1, 1) := by decide +kernel
theorem dX7_goesOne_22 : decode cX7_goesOne 22 = .ok (.bipush (-99), 2) := by decide +kernel
theorem dX7_goesOne_24 : decode cX7_goesOne 24 = .ok (.if_icmp .ge 8, 3) := by decide +kernel
theorem dX7_goesOne_27 : decode cX7_goesOne 27 = .ok (.bipush (-99), 2) := by decide +kernel
theorem dX7_goesOne_29 : decode cX7_goesOne 29 = .ok (.goto 15, 3) := by decide +kernel
theorem dX7_goesOne_32 : decode cX7_goesOne 32 = .ok (.iload_n 1, 1) := by decide +kernel
theorem dX7_goesOne_33 : decode cX7_goesOne 33 = .ok (.bipush 99, 2) := by decide +kernel
theorem dX7_goesOne_35 : decode cX7_goesOne 35 = .ok (.if_icmp .le 8, 3) := by decide +kernel
theorem dX7_goesOne_38 : decode cX7_goesOne 38 = .ok (.bipush 99, 2) := by decide +kernel
theorem dX7_goesOne_40 : decode cX7_goesOne 40 = .ok (.goto 4, 3) := by decide +kernel
theorem dX7_goesOne_43 : decode cX7_goesOne 43 = .ok (.iload_n 1, 1) := by decide +kernel
theorem dX7_goesOne_44 : decode cX7_goesOne 44 = .ok (.iastore, 1) := by decide +kernel
theorem dX7_goesOne_45 : decode cX7_goesOne 45 = .ok (.aload_n 0, 1) := by decide +kernel
theorem dX7_goesOne_46 : decode cX7_goesOne 46 = .ok (.getfield 65, 3) := by decide +kernel
theorem dX7_goesOne_49 : decode cX7_goesOne 49 = .ok (.ifCond .le 14, 3) := by decide +kernel
theorem dX7_goesOne_52 : decode cX7_goesOne 52 = .ok (.aload_n 0, 1) := by decide +kernel
theorem dX7_goesOne_53 : decode cX7_goesOne 53 = .ok (.invokevirtual 216, 3) := by decide +kernel
theorem dX7_goesOne_56 : decode cX7_goesOne 56 = .ok (.ifCond .eq 7, 3) := by decide +kernel
theorem dX7_goesOne_59 : decode cX7_goesOne 59 = .ok (.aload_n 0, 1) := by decide +kernel
theorem dX7_goesOne_60 : decode cX7_goesOne 60 = .ok (.invokevirtual 219, 3) := by decide +kernel
theorem dX7_goesOne_63 : decode cX7_goesOne 63 = .ok (.iconst 0, 1) := by decide +kernel
theorem dX7_goesOne_64 : decode cX7_goesOne 64 = .ok (.istore_n 2, 1) := by decide +kernel
theorem dX7_goesOne_65 : decode cX7_goesOne 65 = .ok (.iload_n 2, 1) := by decide +kernel
theorem dX7_goesOne_66 : decode cX7_goesOne 66 = .ok (.aload_n 0, 1) := by decide +kernel
theorem dX7_goesOne_67 : decode cX7_goesOne 67 = .ok (.getfield 65, 3) := by decide +kernel
theorem dX7_goesOne_70 : decode cX7_goesOne 70 = .ok (.if_icmp .ge 43, 3) := by decide +kernel
theorem dX7_goesOne_73 : decode cX7_goesOne 73 = .ok (.aload_n 0, 1) := by decide +kernel
theorem dX7_goesOne_74 : decode cX7_goesOne 74 = .ok (.getfield 49, 3) := by decide +kernel
theorem dX7_goesOne_77 : decode cX7_goesOne 77 = .ok (.iload_n 2, 1) := by decide +kernel
theorem dX7_goesOne_78 : decode cX7_goesOne 78 = .ok (.dup2, 1) := by decide +kernel
theorem dX7_goesOne_79 : decode cX7_goesOne 79 = .ok (.iaload, 1) := by decide +kernel
theorem dX7_goesOne_80 : decode cX7_goesOne 80 = .ok (.aload_n 0, 1) := by decide +kernel
theorem dX7_goesOne_81 : decode cX7_goesOne 81 = .ok (.iload_n 2, 1) := by decide +kernel
theorem dX7_goesOne_82 : decode cX7_goesOne 82 = .ok (.aload_n 0, 1) := by decide +kernel
theorem dX7_goesOne_83 : decode cX7_goesOne 83 = .ok (.getfield 13, 3) := by decide +kernel
theorem dX7_goesOne_86 : decode cX7_goesOne 86 = .ok (.iconst 0, 1) := by decide +kernel
theorem dX7_goesOne_87 : decode cX7_goesOne 87 = .ok (.iaload, 1) := by decide +kernel
theorem dX7_goesOne_88 : decode cX7_goesOne 88 = .ok (.aload_n 0, 1) := by decide +kernel
theorem dX7_goesOne_89 : decode cX7_goesOne 89 = .ok (.aload_n 0, 1) := by decide +kernel
theorem dX7_goesOne_90 : decode cX7_goesOne 90 = .ok (.getfield 25, 3) := by decide +kernel
theorem dX7_goesOne_93 : decode cX7_goesOne 93 = .ok (.iload_n 2, 1) := by decide +kernel
theorem dX7_goesOne_94 : decode cX7_goesOne 94 = .ok (.iaload, 1) := by decide +kernel
theorem dX7_goesOne_95 : decode cX7_goesOne 95 = .ok (.invokevirtual 185, 3) := by decide +kernel
theorem dX7_goesOne_98 : decode cX7_goesOne 98 = .ok (.isub, 1) := by decide +kernel
theorem dX7_goesOne_99 : decode cX7_goesOne 99 = .ok (.invokestatic 176, 3) := by decide +kernel
theorem dX7_goesOne_102 : decode cX7_goesOne 102 = .ok (.invokevirtual 222, 3) := by decide +kernel
theorem dX7_goesOne_105 : decode cX7_goesOne 105 = .ok (.iadd, 1) := by decide +kernel
theorem dX7_goesOne_106 : decode cX7_goesOne 106 = .ok (.iastore, 1) := by decide +kernel
theorem dX7_goesOne_107 : decode cX7_goesOne 107 = .ok (.iinc 2 1, 3) := by decide +kernel
theorem dX7_goesOne_110 : decode cX7_goesOne 110 = .ok (.goto (-45), 3) := by decide +kernel
theorem dX7_goesOne_113 : decode cX7_goesOne 113 = .ok (.aload_n 0, 1) := by decide +kernel
theorem dX7_goesOne_114 : decode cX7_goesOne 114 = .ok (.getfield 13, 3) := by decide +kernel
theorem dX7_goesOne_117 : decode cX7_goesOne 117 = .ok (.iconst 0, 1) := by decide +kernel
theorem dX7_goesOne_118 : decode cX7_goesOne 118 = .ok (.iaload, 1) := by decide +kernel
theorem dX7_goesOne_119 : decode cX7_goesOne 119 = .ok (.aload_n 0, 1) := by decide +kernel
theorem dX7_goesOne_120 : decode cX7_goesOne 120 = .ok (.getfield 13, 3) := by decide +kernel
theorem dX7_goesOne_123 : decode cX7_goesOne 123 = .ok (.iconst 1, 1) := by decide +kernel
theorem dX7_goesOne_124 : decode cX7_goesOne 124 = .ok (.iaload, 1) := by decide +kernel
theorem dX7_goesOne_125 : decode cX7_goesOne 125 = .ok (.isub, 1) := by decide +kernel
theorem dX7_goesOne_126 : decode cX7_goesOne 126 = .ok (.invokestatic 176, 3) := by decide +kernel
theorem dX7_goesOne_129 : decode cX7_goesOne 129 = .ok (.istore_n 2, 1) := by decide +kernel
theorem dX7_goesOne_130 : decode cX7_goesOne 130 = .ok (.aload_n 0, 1) := by decide +kernel
theorem dX7_goesOne_131 : decode cX7_goesOne 131 = .ok (.getfield 13, 3) := by decide +kernel
theorem dX7_goesOne_134 : decode cX7_goesOne 134 = .ok (.iconst 0, 1) := by decide +kernel
theorem dX7_goesOne_135 : decode cX7_goesOne 135 = .ok (.iaload, 1) := by decide +kernel
theorem dX7_goesOne_136 : decode cX7_goesOne 136 = .ok (.aload_n 0, 1) := by decide +kernel
theorem dX7_goesOne_137 : decode cX7_goesOne 137 = .ok (.getfield 13, 3) := by decide +kernel
theorem dX7_goesOne_140 : decode cX7_goesOne 140 = .ok (.iconst 2, 1) := by decide +kernel
theorem dX7_goesOne_141 : decode cX7_goesOne 141 = .ok (.iaload, 1) := by decide +kernel
theorem dX7_goesOne_142 : decode cX7_goesOne 142 = .ok (.isub, 1) := by decide +kernel
theorem dX7_goesOne_143 : decode cX7_goesOne 143 = .ok (.invokestatic 176, 3) := by decide +kernel
theorem dX7_goesOne_146 : decode cX7_goesOne 146 = .ok (.istore_n 3, 1) := by decide +kernel
theorem dX7_goesOne_147 : decode cX7_goesOne 147 = .ok (.aload_n 0, 1) := by decide +kernel
theorem dX7_goesOne_148 : decode cX7_goesOne 148 = .ok (.iload_n 2, 1) := by decide +kernel
theorem dX7_goesOne_149 : decode cX7_goesOne 149 = .ok (.aload_n 0, 1) := by decide +kernel
theorem dX7_goesOne_150 : decode cX7_goesOne 150 = .ok (.getfield 197, 3) := by decide +kernel
theorem dX7_goesOne_153 : decode cX7_goesOne 153 = .ok (.if_icmp .le 7, 3) := by decide +kernel
theorem dX7_goesOne_156 : decode cX7_goesOne 156 = .ok (.iload_n 2, 1) := by decide +kernel
theorem dX7_goesOne_157 : decode cX7_goesOne 157 = .ok (.goto 7, 3) := by decide +kernel
theorem dX7_goesOne_160 : decode cX7_goesOne 160 = .ok (.aload_n 0, 1) := by decide +kernel
theorem dX7_goesOne_161 : decode cX7_goesOne 161 = .ok (.getfield 197, 3) := by decide +kernel
theorem dX7_goesOne_164 : decode cX7_goesOne 164 = .ok (.putfield 197, 3) := by decide +kernel
theorem dX7_goesOne_167 : decode cX7_goesOne 167 = .ok (.aload_n 0, 1) := by decide +kernel
theorem dX7_goesOne_168 : decode cX7_goesOne 168 = .ok (.iload_n 3, 1) := by decide +kernel
theorem dX7_goesOne_169 : decode cX7_goesOne 169 = .ok (.aload_n 0, 1) := by decide +kernel
theorem dX7_goesOne_170 : decode cX7_goesOne 170 = .ok (.getfield 200, 3) := by decide +kernel
theorem dX7_goesOne_173 : decode cX7_goesOne 173 = .ok (.if_icmp .le 7, 3) := by decide +kernel
theorem dX7_goesOne_176 : decode cX7_goesOne 176 = .ok (.iload_n 3, 1) := by decide +kernel
theorem dX7_goesOne_177 : decode cX7_goesOne 177 = .ok (.goto 7, 3) := by decide +kernel
theorem dX7_goesOne_180 : decode cX7_goesOne 180 = .ok (.aload_n 0, 1) := by decide +kernel
theorem dX7_goesOne_181 : decode cX7_goesOne 181 = .ok (.getfield 200, 3) := by decide +kernel
theorem dX7_goesOne_184 : decode cX7_goesOne 184 = .ok (.putfield 200, 3) := by decide +kernel
theorem dX7_goesOne_187 : decode cX7_goesOne 187 = .ok (.aload_n 0, 1) := by decide +kernel
theorem dX7_goesOne_188 : decode cX7_goesOne 188 = .ok (.getfield 55, 3) := by decide +kernel
theorem dX7_goesOne_191 : decode cX7_goesOne 191 = .ok (.aload_n 0, 1) := by decide +kernel
theorem dX7_goesOne_192 : decode cX7_goesOne 192 = .ok (.getfield 206, 3) := by decide +kernel
theorem dX7_goesOne_195 : decode cX7_goesOne 195 = .ok (.aload_n 0, 1) := by decide +kernel
theorem dX7_goesOne_196 : decode cX7_goesOne 196 = .ok (.getfield 13, 3) := by decide +kernel
theorem dX7_goesOne_199 : decode cX7_goesOne 199 = .ok (.iconst 0, 1) := by decide +kernel
theorem dX7_goesOne_200 : decode cX7_goesOne 200 = .ok (.iaload, 1) := by decide +kernel
theorem dX7_goesOne_201 : decode cX7_goesOne 201 = .ok (.iastore, 1) := by decide +kernel
theorem dX7_goesOne_202 : decode cX7_goesOne 202 = .ok (.aload_n 0, 1) := by decide +kernel
theorem dX7_goesOne_203 : decode cX7_goesOne 203 = .ok (.dup, 1) := by decide +kernel
theorem dX7_goesOne_204 : decode cX7_goesOne 204 = .ok (.getfield 138, 3) := by decide +kernel
theorem dX7_goesOne_207 : decode cX7_goesOne 207 = .ok (.iconst 1, 1) := by decide +kernel
theorem dX7_goesOne_208 : decode cX7_goesOne 208 = .ok (.iadd, 1) := by decide +kernel
theorem dX7_goesOne_209 : decode cX7_goesOne 209 = .ok (.putfield 138, 3) := by decide +kernel
theorem dX7_goesOne_212 : decode cX7_goesOne 212 = .ok (.aload_n 0, 1) := by decide +kernel
theorem dX7_goesOne_213 : decode cX7_goesOne 213 = .ok (.dup, 1) := by decide +kernel
theorem dX7_goesOne_214 : decode cX7_goesOne 214 = .ok (.getfield 206, 3) := by decide +kernel
theorem dX7_goesOne_217 : decode cX7_goesOne 217 = .ok (.iconst 1, 1) := by decide +kernel
theorem dX7_goesOne_218 : decode cX7_goesOne 218 = .ok (.iadd, 1) := by decide +kernel
theorem dX7_goesOne_219 : decode cX7_goesOne 219 = .ok (.putfield 206, 3) := by decide +kernel
theorem dX7_goesOne_222 : decode cX7_goesOne 222 = .ok (.return_, 1) := by decide +kernel
theorem dX7_goes_0 : decode cX7_goes 0 = .ok (.aload_n 0, 1) := by decide +kernel
theorem dX7_goes_1 : decode cX7_goes 1 = .ok (.invokevirtual 226, 3) := by decide +kernel
theorem dX7_goes_4 : decode cX7_goes 4 = .ok (.iconst 0, 1) := by decide +kernel
theorem dX7_goes_5 : decode cX7_goes 5 = .ok (.istore_n 2, 1) := by decide +kernel
theorem dX7_goes_6 : decode cX7_goes 6 = .ok (.iload_n 2, 1) := by decide +kernel
theorem dX7_goes_7 : decode cX7_goes 7 = .ok (.iload_n 1, 1) := by decide +kernel
theorem dX7_goes_8 : decode cX7_goes 8 = .ok (.if_icmp .ge 13, 3) := by decide +kernel
theorem dX7_goes_11 : decode cX7_goes 11 = .ok (.aload_n 0, 1) := by decide +kernel
theorem dX7_goes_12 : decode cX7_goes 12 = .ok (.invokevirtual 229, 3) := by decide +kernel
theorem dX7_goes_15 : decode cX7_goes 15 = .ok (.iinc 2 1, 3) := by decide +kernel
theorem dX7_goes_18 : decode cX7_goes 18 = .ok (.goto (-12), 3) := by decide +kernel
theorem dX7_goes_21 : decode cX7_goes 21 = .ok (.return_, 1) := by decide +kernel
theorem dX7_costOf_0 : decode cX7_costOf 0 = .ok (.aload_n 0, 1) := by decide +kernel
theorem dX7_costOf_1 : decode cX7_costOf 1 = .ok (.getfield 194, 3) := by decide +kernel
theorem dX7_costOf_4 : decode cX7_costOf 4 = .ok (.istore_n 1, 1) := by decide +kernel
theorem dX7_costOf_5 : decode cX7_costOf 5 = .ok (.iconst 0, 1) := by decide +kernel
theorem dX7_costOf_6 : decode cX7_costOf 6 = .ok (.istore_n 2, 1) := by decide +kernel
theorem dX7_costOf_7 : decode cX7_costOf 7 = .ok (.iload_n 2, 1) := by decide +kernel
theorem dX7_costOf_8 : decode cX7_costOf 8 = .ok (.aload_n 0, 1) := by decide +kernel
theorem dX7_costOf_9 : decode cX7_costOf 9 = .ok (.getfield 65, 3) := by decide +kernel
theorem dX7_costOf_12 : decode cX7_costOf 12 = .ok (.if_icmp .ge 18, 3) := by decide +kernel
theorem dX7_costOf_15 : decode cX7_costOf 15 = .ok (.iload_n 1, 1) := by decide +kernel
theorem dX7_costOf_16 : decode cX7_costOf 16 = .ok (.aload_n 0, 1) := by decide +kernel
theorem dX7_costOf_17 : decode cX7_costOf 17 = .ok (.getfield 49, 3) := by decide +kernel
theorem dX7_costOf_20 : decode cX7_costOf 20 = .ok (.iload_n 2, 1) := by decide +kernel
theorem dX7_costOf_21 : decode cX7_costOf 21 = .ok (.iaload, 1) := by decide +kernel
theorem dX7_costOf_22 : decode cX7_costOf 22 = .ok (.iadd, 1) := by decide +kernel
theorem dX7_costOf_23 : decode cX7_costOf 23 = .ok (.istore_n 1, 1) := by decide +kernel
theorem dX7_costOf_24 : decode cX7_costOf 24 = .ok (.iinc 2 1, 3) := by decide +kernel
theorem dX7_costOf_27 : decode cX7_costOf 27 = .ok (.goto (-20), 3) := by decide +kernel
theorem dX7_costOf_30 : decode cX7_costOf 30 = .ok (.iload_n 1, 1) := by decide +kernel
theorem dX7_costOf_31 : decode cX7_costOf 31 = .ok (.ireturn, 1) := by decide +kernel
theorem dX7_thinks_0 : decode cX7_thinks 0 = .ok (.aload_n 0, 1) := by decide +kernel
theorem dX7_thinks_1 : decode cX7_thinks 1 = .ok (.getfield 13, 3) := by decide +kernel
theorem dX7_thinks_4 : decode cX7_thinks 4 = .ok (.iconst 0, 1) := by decide +kernel
theorem dX7_thinks_5 : decode cX7_thinks 5 = .ok (.iaload, 1) := by decide +kernel
theorem dX7_thinks_6 : decode cX7_thinks 6 = .ok (.istore_n 2, 1) := by decide +kernel
theorem dX7_thinks_7 : decode cX7_thinks 7 = .ok (.aload_n 0, 1) := by decide +kernel
theorem dX7_thinks_8 : decode cX7_thinks 8 = .ok (.getfield 138, 3) := by decide +kernel
theorem dX7_thinks_11 : decode cX7_thinks 11 = .ok (.istore_n 3, 1) := by decide +kernel
theorem dX7_thinks_12 : decode cX7_thinks 12 = .ok (.aload_n 0, 1) := by decide +kernel
theorem dX7_thinks_13 : decode cX7_thinks 13 = .ok (.getfield 170, 3) := by decide +kernel
theorem dX7_thinks_16 : decode cX7_thinks 16 = .ok (.istore 4, 2) := by decide +kernel
theorem dX7_thinks_18 : decode cX7_thinks 18 = .ok (.aload_n 0, 1) := by decide +kernel
theorem dX7_thinks_19 : decode cX7_thinks 19 = .ok (.iload_n 1, 1) := by decide +kernel
theorem dX7_thinks_20 : decode cX7_thinks 20 = .ok (.invokevirtual 141, 3) := by decide +kernel
theorem dX7_thinks_23 : decode cX7_thinks 23 = .ok (.aload_n 0, 1) := by decide +kernel
theorem dX7_thinks_24 : decode cX7_thinks 24 = .ok (.getfield 13, 3) := by decide +kernel
theorem dX7_thinks_27 : decode cX7_thinks 27 = .ok (.iconst 0, 1) := by decide +kernel
theorem dX7_thinks_28 : decode cX7_thinks 28 = .ok (.iload_n 2, 1) := by decide +kernel
theorem dX7_thinks_29 : decode cX7_thinks 29 = .ok (.iastore, 1) := by decide +kernel
theorem dX7_thinks_30 : decode cX7_thinks 30 = .ok (.aload_n 0, 1) := by decide +kernel
theorem dX7_thinks_31 : decode cX7_thinks 31 = .ok (.iload_n 3, 1) := by decide +kernel
theorem dX7_thinks_32 : decode cX7_thinks 32 = .ok (.putfield 138, 3) := by decide +kernel
theorem dX7_thinks_35 : decode cX7_thinks 35 = .ok (.aload_n 0, 1) := by decide +kernel
theorem dX7_thinks_36 : decode cX7_thinks 36 = .ok (.iload 4, 2) := by decide +kernel
theorem dX7_thinks_38 : decode cX7_thinks 38 = .ok (.putfield 170, 3) := by decide +kernel
theorem dX7_thinks_41 : decode cX7_thinks 41 = .ok (.aload_n 0, 1) := by decide +kernel
theorem dX7_thinks_42 : decode cX7_thinks 42 = .ok (.invokevirtual 232, 3) := by decide +kernel
theorem dX7_thinks_45 : decode cX7_thinks 45 = .ok (.ireturn, 1) := by decide +kernel
theorem dX7_thinksWith_0 : decode cX7_thinksWith 0 = .ok (.aload_n 0, 1) := by decide +kernel
theorem dX7_thinksWith_1 : decode cX7_thinksWith 1 = .ok (.getfield 13, 3) := by decide +kernel
theorem dX7_thinksWith_4 : decode cX7_thinksWith 4 = .ok (.iload_n 1, 1) := by decide +kernel
theorem dX7_thinksWith_5 : decode cX7_thinksWith 5 = .ok (.iaload, 1) := by decide +kernel
theorem dX7_thinksWith_6 : decode cX7_thinksWith 6 = .ok (.istore 4, 2) := by decide +kernel
theorem dX7_thinksWith_8 : decode cX7_thinksWith 8 = .ok (.aload_n 0, 1) := by decide +kernel
theorem dX7_thinksWith_9 : decode cX7_thinksWith 9 = .ok (.getfield 13, 3) := by decide +kernel
theorem dX7_thinksWith_12 : decode cX7_thinksWith 12 = .ok (.iload_n 1, 1) := by decide +kernel
theorem dX7_thinksWith_13 : decode cX7_thinksWith 13 = .ok (.iload_n 2, 1) := by decide +kernel
theorem dX7_thinksWith_14 : decode cX7_thinksWith 14 = .ok (.iastore, 1) := by decide +kernel
theorem dX7_thinksWith_15 : decode cX7_thinksWith 15 = .ok (.aload_n 0, 1) := by decide +kernel
theorem dX7_thinksWith_16 : decode cX7_thinksWith 16 = .ok (.iload_n 3, 1) := by decide +kernel
theorem dX7_thinksWith_17 : decode cX7_thinksWith 17 = .ok (.invokevirtual 235, 3) := by decide +kernel
theorem dX7_thinksWith_20 : decode cX7_thinksWith 20 = .ok (.istore 5, 2) := by decide +kernel
theorem dX7_thinksWith_22 : decode cX7_thinksWith 22 = .ok (.aload_n 0, 1) := by decide +kernel
theorem dX7_thinksWith_23 : decode cX7_thinksWith 23 = .ok (.getfield 13, 3) := by decide +kernel
theorem dX7_thinksWith_26 : decode cX7_thinksWith 26 = .ok (.iload_n 1, 1) := by decide +kernel
theorem dX7_thinksWith_27 : decode cX7_thinksWith 27 = .ok (.iload 4, 2) := by decide +kernel
theorem dX7_thinksWith_29 : decode cX7_thinksWith 29 = .ok (.iastore, 1) := by decide +kernel
theorem dX7_thinksWith_30 : decode cX7_thinksWith 30 = .ok (.iload 5, 2) := by decide +kernel
theorem dX7_thinksWith_32 : decode cX7_thinksWith 32 = .ok (.ireturn, 1) := by decide +kernel
theorem dX7_thinksByRule_0 : decode cX7_thinksByRule 0 = .ok (.aload_n 0, 1) := by decide +kernel
theorem dX7_thinksByRule_1 : decode cX7_thinksByRule 1 = .ok (.getfield 135, 3) := by decide +kernel
theorem dX7_thinksByRule_4 : decode cX7_thinksByRule 4 = .ok (.istore_n 3, 1) := by decide +kernel
theorem dX7_thinksByRule_5 : decode cX7_thinksByRule 5 = .ok (.aload_n 0, 1) := by decide +kernel
theorem dX7_thinksByRule_6 : decode cX7_thinksByRule 6 = .ok (.iload_n 1, 1) := by decide +kernel
theorem dX7_thinksByRule_7 : decode cX7_thinksByRule 7 = .ok (.putfield 135, 3) := by decide +kernel
theorem dX7_thinksByRule_10 : decode cX7_thinksByRule 10 = .ok (.aload_n 0, 1) := by decide +kernel
theorem dX7_thinksByRule_11 : decode cX7_thinksByRule 11 = .ok (.iload_n 2, 1) := by decide +kernel
theorem dX7_thinksByRule_12 : decode cX7_thinksByRule 12 = .ok (.invokevirtual 235, 3) := by decide +kernel
theorem dX7_thinksByRule_15 : decode cX7_thinksByRule 15 = .ok (.istore 4, 2) := by decide +kernel
theorem dX7_thinksByRule_17 : decode cX7_thinksByRule 17 = .ok (.aload_n 0, 1) := by decide +kernel
theorem dX7_thinksByRule_18 : decode cX7_thinksByRule 18 = .ok (.iload_n 3, 1) := by decide +kernel
theorem dX7_thinksByRule_19 : decode cX7_thinksByRule 19 = .ok (.putfield 135, 3) := by decide +kernel
theorem dX7_thinksByRule_22 : decode cX7_thinksByRule 22 = .ok (.iload 4, 2) := by decide +kernel
theorem dX7_thinksByRule_24 : decode cX7_thinksByRule 24 = .ok (.ireturn, 1) := by decide +kernel
theorem dX7_thinksFirst_0 : decode cX7_thinksFirst 0 = .ok (.aload_n 0, 1) := by decide +kernel
theorem dX7_thinksFirst_1 : decode cX7_thinksFirst 1 = .ok (.getfield 170, 3) := by decide +kernel
theorem dX7_thinksFirst_4 : decode cX7_thinksFirst 4 = .ok (.istore_n 3, 1) := by decide +kernel
theorem dX7_thinksFirst_5 : decode cX7_thinksFirst 5 = .ok (.aload_n 0, 1) := by decide +kernel
theorem dX7_thinksFirst_6 : decode cX7_thinksFirst 6 = .ok (.iload_n 1, 1) := by decide +kernel
theorem dX7_thinksFirst_7 : decode cX7_thinksFirst 7 = .ok (.putfield 170, 3) := by decide +kernel
theorem dX7_thinksFirst_10 : decode cX7_thinksFirst 10 = .ok (.aload_n 0, 1) := by decide +kernel
theorem dX7_thinksFirst_11 : decode cX7_thinksFirst 11 = .ok (.iload_n 2, 1) := by decide +kernel
theorem dX7_thinksFirst_12 : decode cX7_thinksFirst 12 = .ok (.invokevirtual 235, 3) := by decide +kernel
theorem dX7_thinksFirst_15 : decode cX7_thinksFirst 15 = .ok (.istore 4, 2) := by decide +kernel
theorem dX7_thinksFirst_17 : decode cX7_thinksFirst 17 = .ok (.aload_n 0, 1) := by decide +kernel
theorem dX7_thinksFirst_18 : decode cX7_thinksFirst 18 = .ok (.iload_n 3, 1) := by decide +kernel
theorem dX7_thinksFirst_19 : decode cX7_thinksFirst 19 = .ok (.putfield 170, 3) := by decide +kernel
theorem dX7_thinksFirst_22 : decode cX7_thinksFirst 22 = .ok (.iload 4, 2) := by decide +kernel
theorem dX7_thinksFirst_24 : decode cX7_thinksFirst 24 = .ok (.ireturn, 1) := by decide +kernel
theorem dX7_person_0 : decode cX7_person 0 = .ok (.aload_n 0, 1) := by decide +kernel
theorem dX7_person_1 : decode cX7_person 1 = .ok (.iload_n 1, 1) := by decide +kernel
theorem dX7_person_2 : decode cX7_person 2 = .ok (.invokevirtual 238, 3) := by decide +kernel
theorem dX7_person_5 : decode cX7_person 5 = .ok (.ifCond .ne 9, 3) := by decide +kernel
theorem dX7_person_8 : decode cX7_person 8 = .ok (.aload_n 0, 1) := by decide +kernel
theorem dX7_person_9 : decode cX7_person 9 = .ok (.iconst (-1), 1) := by decide +kernel
theorem dX7_person_10 : decode cX7_person 10 = .ok (.invokevirtual 76, 3) := by decide +kernel
theorem dX7_person_13 : decode cX7_person 13 = .ok (.ireturn, 1) := by decide +kernel
theorem dX7_person_14 : decode cX7_person 14 = .ok (.iload_n 2, 1) := by decide +kernel
theorem dX7_person_15 : decode cX7_person 15 = .ok (.tableswitch 79 0 5 #[37, 44, 51, 58, 65, 72], 37) := by decide +kernel
theorem dX7_person_52 : decode cX7_person 52 = .ok (.aload_n 0, 1) := by decide +kernel
theorem dX7_person_53 : decode cX7_person 53 = .ok (.getfield 16, 3) := by decide +kernel
theorem dX7_person_56 : decode cX7_person 56 = .ok (.iload_n 1, 1) := by decide +kernel
theorem dX7_person_57 : decode cX7_person 57 = .ok (.iaload, 1) := by decide +kernel
theorem dX7_person_58 : decode cX7_person 58 = .ok (.ireturn, 1) := by decide +kernel
theorem dX7_person_59 : decode cX7_person 59 = .ok (.aload_n 0, 1) := by decide +kernel
theorem dX7_person_60 : decode cX7_person 60 = .ok (.getfield 19, 3) := by decide +kernel
theorem dX7_person_63 : decode cX7_person 63 = .ok (.iload_n 1, 1) := by decide +kernel
theorem dX7_person_64 : decode cX7_person 64 = .ok (.iaload, 1) := by decide +kernel
theorem dX7_person_65 : decode cX7_person 65 = .ok (.ireturn, 1) := by decide +kernel
theorem dX7_person_66 : decode cX7_person 66 = .ok (.aload_n 0, 1) := by decide +kernel
theorem dX7_person_67 : decode cX7_person 67 = .ok (.getfield 22, 3) := by decide +kernel
theorem dX7_person_70 : decode cX7_person 70 = .ok (.iload_n 1, 1) := by decide +kernel
theorem dX7_person_71 : decode cX7_person 71 = .ok (.iaload, 1) := by decide +kernel
theorem dX7_person_72 : decode cX7_person 72 = .ok (.ireturn, 1) := by decide +kernel
theorem dX7_person_73 : decode cX7_person 73 = .ok (.aload_n 0, 1) := by decide +kernel
theorem dX7_person_74 : decode cX7_person 74 = .ok (.getfield 25, 3) := by decide +kernel
theorem dX7_person_77 : decode cX7_person 77 = .ok (.iload_n 1, 1) := by decide +kernel
theorem dX7_person_78 : decode cX7_person 78 = .ok (.iaload, 1) := by decide +kernel
theorem dX7_person_79 : decode cX7_person 79 = .ok (.ireturn, 1) := by decide +kernel
theorem dX7_person_80 : decode cX7_person 80 = .ok (.aload_n 0, 1) := by decide +kernel
theorem dX7_person_81 : decode cX7_person 81 = .ok (.getfield 28, 3) := by decide +kernel
theorem dX7_person_84 : decode cX7_person 84 = .ok (.iload_n 1, 1) := by decide +kernel
theorem dX7_person_85 : decode cX7_person 85 = .ok (.iaload, 1) := by decide +kernel
theorem dX7_person_86 : decode cX7_person 86 = .ok (.ireturn, 1) := by decide +kernel
theorem dX7_person_87 : decode cX7_person 87 = .ok (.aload_n 0, 1) := by decide +kernel
theorem dX7_person_88 : decode cX7_person 88 = .ok (.getfield 31, 3) := by decide +kernel
theorem dX7_person_91 : decode cX7_person 91 = .ok (.iload_n 1, 1) := by decide +kernel
theorem dX7_person_92 : decode cX7_person 92 = .ok (.iaload, 1) := by decide +kernel
theorem dX7_person_93 : decode cX7_person 93 = .ok (.ireturn, 1) := by decide +kernel
theorem dX7_person_94 : decode cX7_person 94 = .ok (.aload_n 0, 1) := by decide +kernel
theorem dX7_person_95 : decode cX7_person 95 = .ok (.bipush (-2), 2) := by decide +kernel
theorem dX7_person_97 : decode cX7_person 97 = .ok (.invokevirtual 76, 3) := by decide +kernel
theorem dX7_person_100 : decode cX7_person 100 = .ok (.ireturn, 1) := by decide +kernel
theorem dX7_bothers_0 : decode cX7_bothers 0 = .ok (.aload_n 0, 1) := by decide +kernel
theorem dX7_bothers_1 : decode cX7_bothers 1 = .ok (.iload_n 1, 1) := by decide +kernel
theorem dX7_bothers_2 : decode cX7_bothers 2 = .ok (.invokevirtual 238, 3) := by decide +kernel
theorem dX7_bothers_5 : decode cX7_bothers 5 = .ok (.ifCond .ne 7, 3) := by decide +kernel
theorem dX7_bothers_8 : decode cX7_bothers 8 = .ok (.iconst (-1), 1) := by decide +kernel
theorem dX7_bothers_9 : decode cX7_bothers 9 = .ok (.goto 11, 3) := by decide +kernel
theorem dX7_bothers_12 : decode cX7_bothers 12 = .ok (.iload_n 2, 1) := by decide +kernel
theorem dX7_bothers_13 : decode cX7_bothers 13 = .ok (.iconst 0, 1) := by decide +kernel
theorem dX7_bothers_14 : decode cX7_bothers 14 = .ok (.sipush 199, 3) := by decide +kernel
theorem dX7_bothers_17 : decode cX7_bothers 17 = .ok (.invokestatic 69, 3) := by decide +kernel
theorem dX7_bothers_20 : decode cX7_bothers 20 = .ok (.istore_n 3, 1) := by decide +kernel
theorem dX7_bothers_21 : decode cX7_bothers 21 = .ok (.iload_n 3, 1) := by decide +kernel
theorem dX7_bothers_22 : decode cX7_bothers 22 = .ok (.ifCond .eq 11, 3) := by decide +kernel
theorem dX7_bothers_25 : decode cX7_bothers 25 = .ok (.aload_n 0, 1) := by decide +kernel
theorem dX7_bothers_26 : decode cX7_bothers 26 = .ok (.iload_n 3, 1) := by decide +kernel
theorem dX7_bothers_27 : decode cX7_bothers 27 = .ok (.invokevirtual 76, 3) := by decide +kernel
theorem dX7_bothers_30 : decode cX7_bothers 30 = .ok (.goto 9, 3) := by decide +kernel
theorem dX7_bothers_33 : decode cX7_bothers 33 = .ok (.aload_n 0, 1) := by decide +kernel
theorem dX7_bothers_34 : decode cX7_bothers 34 = .ok (.iload_n 1, 1) := by decide +kernel
theorem dX7_bothers_35 : decode cX7_bothers 35 = .ok (.iload_n 2, 1) := by decide +kernel
theorem dX7_bothers_36 : decode cX7_bothers 36 = .ok (.invokevirtual 222, 3) := by decide +kernel
theorem dX7_bothers_39 : decode cX7_bothers 39 = .ok (.ireturn, 1) := by decide +kernel
theorem dX7_place_0 : decode cX7_place 0 = .ok (.iload_n 1, 1) := by decide +kernel
theorem dX7_place_1 : decode cX7_place 1 = .ok (.iconst 0, 1) := by decide +kernel
theorem dX7_place_2 : decode cX7_place 2 = .ok (.iconst 2, 1) := by decide +kernel
theorem dX7_place_3 : decode cX7_place 3 = .ok (.invokestatic 87, 3) := by decide +kernel
theorem dX7_place_6 : decode cX7_place 6 = .ok (.ifCond .eq 12, 3) := by decide +kernel
theorem dX7_place_9 : decode cX7_place 9 = .ok (.aload_n 0, 1) := by decide +kernel
theorem dX7_place_10 : decode cX7_place 10 = .ok (.getfield 13, 3) := by decide +kernel
theorem dX7_place_13 : decode cX7_place 13 = .ok (.iload_n 1, 1) := by decide +kernel
theorem dX7_place_14 : decode cX7_place 14 = .ok (.iaload, 1) := by decide +kernel
theorem dX7_place_15 : decode cX7_place 15 = .ok (.goto 9, 3) := by decide +kernel
theorem dX7_place_18 : decode cX7_place 18 = .ok (.aload_n 0, 1) := by decide +kernel
theorem dX7_place_19 : decode cX7_place 19 = .ok (.bipush (-2), 2) := by decide +kernel
theorem dX7_place_21 : decode cX7_place 21 = .ok (.invokevirtual 241, 3) := by decide +kernel
theorem dX7_place_24 : decode cX7_place 24 = .ok (.ireturn, 1) := by decide +kernel
theorem dX7_set_0 : decode cX7_set 0 = .ok (.iload_n 1, 1) := by decide +kernel
theorem dX7_set_1 : decode cX7_set 1 = .ok (.iconst 0, 1) := by decide +kernel
theorem dX7_set_2 : decode cX7_set 2 = .ok (.iconst 5, 1) := by decide +kernel
theorem dX7_set_3 : decode cX7_set 3 = .ok (.invokestatic 87, 3) := by decide +kernel
theorem dX7_set_6 : decode cX7_set 6 = .ok (.ifCond .ne 8, 3) := by decide +kernel
theorem dX7_set_9 : decode cX7_set 9 = .ok (.bipush (-2), 2) := by decide +kernel
theorem dX7_set_11 : decode cX7_set 11 = .ok (.goto 15, 3) := by decide +kernel
theorem dX7_set_14 : decode cX7_set 14 = .ok (.iload_n 2, 1) := by decide +kernel
theorem dX7_set_15 : decode cX7_set 15 = .ok (.iload_n 1, 1) := by decide +kernel
theorem dX7_set_16 : decode cX7_set 16 = .ok (.invokestatic 120, 3) := by decide +kernel
theorem dX7_set_19 : decode cX7_set 19 = .ok (.iload_n 1, 1) := by decide +kernel
theorem dX7_set_20 : decode cX7_set 20 = .ok (.invokestatic 123, 3) := by decide +kernel
theorem dX7_set_23 : decode cX7_set 23 = .ok (.invokestatic 69, 3) := by decide +kernel
theorem dX7_set_26 : decode cX7_set 26 = .ok (.istore_n 3, 1) := by decide +kernel
theorem dX7_set_27 : decode cX7_set 27 = .ok (.iload_n 3, 1) := by decide +kernel
theorem dX7_set_28 : decode cX7_set 28 = .ok (.ifCond .eq 9, 3) := by decide +kernel
theorem dX7_set_31 : decode cX7_set 31 = .ok (.aload_n 0, 1) := by decide +kernel
theorem dX7_set_32 : decode cX7_set 32 = .ok (.iload_n 3, 1) := by decide +kernel
theorem dX7_set_33 : decode cX7_set 33 = .ok (.invokevirtual 241, 3) := by decide +kernel
theorem dX7_set_36 : decode cX7_set 36 = .ok (.ireturn, 1) := by decide +kernel
theorem dX7_set_37 : decode cX7_set 37 = .ok (.aload_n 0, 1) := by decide +kernel
theorem dX7_set_38 : decode cX7_set 38 = .ok (.getfield 13, 3) := by decide +kernel
theorem dX7_set_41 : decode cX7_set 41 = .ok (.iload_n 1, 1) := by decide +kernel
theorem dX7_set_42 : decode cX7_set 42 = .ok (.iaload, 1) := by decide +kernel
theorem dX7_set_43 : decode cX7_set 43 = .ok (.istore 4, 2) := by decide +kernel
theorem dX7_set_45 : decode cX7_set 45 = .ok (.aload_n 0, 1) := by decide +kernel
theorem dX7_set_46 : decode cX7_set 46 = .ok (.getfield 13, 3) := by decide +kernel
theorem dX7_set_49 : decode cX7_set 49 = .ok (.iload_n 1, 1) := by decide +kernel
theorem dX7_set_50 : decode cX7_set 50 = .ok (.iload_n 2, 1) := by decide +kernel
theorem dX7_set_51 : decode cX7_set 51 = .ok (.iastore, 1) := by decide +kernel
theorem dX7_set_52 : decode cX7_set 52 = .ok (.iload 4, 2) := by decide +kernel
theorem dX7_set_54 : decode cX7_set 54 = .ok (.ireturn, 1) := by decide +kernel
theorem dX7_kind_0 : decode cX7_kind 0 = .ok (.iload_n 1, 1) := by decide +kernel
theorem dX7_kind_1 : decode cX7_kind 1 = .ok (.iconst 0, 1) := by decide +kernel
theorem dX7_kind_2 : decode cX7_kind 2 = .ok (.iconst 1, 1) := by decide +kernel
theorem dX7_kind_3 : decode cX7_kind 3 = .ok (.invokestatic 87, 3) := by decide +kernel
theorem dX7_kind_6 : decode cX7_kind 6 = .ok (.ifCond .eq 12, 3) := by decide +kernel
theorem dX7_kind_9 : decode cX7_kind 9 = .ok (.iload_n 2, 1) := by decide +kernel
theorem dX7_kind_10 : decode cX7_kind 10 = .ok (.iconst 0, 1) := by decide +kernel
theorem dX7_kind_11 : decode cX7_kind 11 = .ok (.iconst 4, 1) := by decide +kernel
theorem dX7_kind_12 : decode cX7_kind 12 = .ok (.invokestatic 87, 3) := by decide +kernel
theorem dX7_kind_15 : decode cX7_kind 15 = .ok (.ifCond .ne 10, 3) := by decide +kernel
theorem dX7_kind_18 : decode cX7_kind 18 = .ok (.aload_n 0, 1) := by decide +kernel
theorem dX7_kind_19 : decode cX7_kind 19 = .ok (.bipush (-2), 2) := by decide +kernel
theorem dX7_kind_21 : decode cX7_kind 21 = .ok (.invokevirtual 76, 3) := by decide +kernel
theorem dX7_kind_24 : decode cX7_kind 24 = .ok (.ireturn, 1) := by decide +kernel
theorem dX7_kind_25 : decode cX7_kind 25 = .ok (.iload_n 1, 1) := by decide +kernel
theorem dX7_kind_26 : decode cX7_kind 26 = .ok (.ifCond .ne 10, 3) := by decide +kernel
theorem dX7_kind_29 : decode cX7_kind 29 = .ok (.aload_n 0, 1) := by decide +kernel
theorem dX7_kind_30 : decode cX7_kind 30 = .ok (.getfield 132, 3) := by decide +kernel
theorem dX7_kind_33 : decode cX7_kind 33 = .ok (.goto 7, 3) := by decide +kernel
theorem dX7_kind_36 : decode cX7_kind 36 = .ok (.aload_n 0, 1) := by decide +kernel
theorem dX7_kind_37 : decode cX7_kind 37 = .ok (.getfield 135, 3) := by decide +kernel
theorem dX7_kind_40 : decode cX7_kind 40 = .ok (.istore_n 3, 1) := by decide +kernel
theorem dX7_kind_41 : decode cX7_kind 41 = .ok (.iload_n 1, 1) := by decide +kernel
theorem dX7_kind_42 : decode cX7_kind 42 = .ok (.ifCond .ne 11, 3) := by decide +kernel
theorem dX7_kind_45 : decode cX7_kind 45 = .ok (.aload_n 0, 1) := by decide +kernel
theorem dX7_kind_46 : decode cX7_kind 46 = .ok (.iload_n 2, 1) := by decide +kernel
theorem dX7_kind_47 : decode cX7_kind 47 = .ok (.putfield 132, 3) := by decide +kernel
theorem dX7_kind_50 : decode cX7_kind 50 = .ok (.goto 8, 3) := by decide +kernel
theorem dX7_kind_53 : decode cX7_kind 53 = .ok (.aload_n 0, 1) := by decide +kernel
theorem dX7_kind_54 : decode cX7_kind 54 = .ok (.iload_n 2, 1) := by decide +kernel
theorem dX7_kind_55 : decode cX7_kind 55 = .ok (.putfield 135, 3) := by decide +kernel
theorem dX7_kind_58 : decode cX7_kind 58 = .ok (.iload_n 3, 1) := by decide +kernel
theorem dX7_kind_59 : decode cX7_kind 59 = .ok (.ireturn, 1) := by decide +kernel
theorem dX7_turn_0 : decode cX7_turn 0 = .ok (.aload_n 0, 1) := by decide +kernel
theorem dX7_turn_1 : decode cX7_turn 1 = .ok (.iload_n 1, 1) := by decide +kernel
theorem dX7_turn_2 : decode cX7_turn 2 = .ok (.invokevirtual 238, 3) := by decide +kernel
theorem dX7_turn_5 : decode cX7_turn 5 = .ok (.ifCond .ne 9, 3) := by decide +kernel
theorem dX7_turn_8 : decode cX7_turn 8 = .ok (.aload_n 0, 1) := by decide +kernel
theorem dX7_turn_9 : decode cX7_turn 9 = .ok (.iconst (-1), 1) := by decide +kernel
theorem dX7_turn_10 : decode cX7_turn 10 = .ok (.invokevirtual 76, 3) := by decide +kernel
theorem dX7_turn_13 : decode cX7_turn 13 = .ok (.ireturn, 1) := by decide +kernel
theorem dX7_turn_14 : decode cX7_turn 14 = .ok (.aload_n 0, 1) := by decide +kernel
theorem dX7_turn_15 : decode cX7_turn 15 = .ok (.getfield 170, 3) := by decide +kernel
theorem dX7_turn_18 : decode cX7_turn 18 = .ok (.istore_n 2, 1) := by decide +kernel
theorem dX7_turn_19 : decode cX7_turn 19 = .ok (.aload_n 0, 1) := by decide +kernel
theorem dX7_turn_20 : decode cX7_turn 20 = .ok (.iload_n 1, 1) := by decide +kernel
theorem dX7_turn_21 : decode cX7_turn 21 = .ok (.putfield 170, 3) := by decide +kernel
theorem dX7_turn_24 : decode cX7_turn 24 = .ok (.iload_n 2, 1) := by decide +kernel
theorem dX7_turn_25 : decode cX7_turn 25 = .ok (.ireturn, 1) := by decide +kernel
theorem dX7_drifts_0 : decode cX7_drifts 0 = .ok (.iload_n 1, 1) := by decide +kernel
theorem dX7_drifts_1 : decode cX7_drifts 1 = .ok (.iconst 0, 1) := by decide +kernel
theorem dX7_drifts_2 : decode cX7_drifts 2 = .ok (.sipush 9999, 3) := by decide +kernel
theorem dX7_drifts_5 : decode cX7_drifts 5 = .ok (.invokestatic 69, 3) := by decide +kernel
theorem dX7_drifts_8 : decode cX7_drifts 8 = .ok (.istore_n 2, 1) := by decide +kernel
theorem dX7_drifts_9 : decode cX7_drifts 9 = .ok (.iload_n 2, 1) := by decide +kernel
theorem dX7_drifts_10 : decode cX7_drifts 10 = .ok (.ifCond .eq 11, 3) := by decide +kernel
theorem dX7_drifts_13 : decode cX7_drifts 13 = .ok (.aload_n 0, 1) := by decide +kernel
theorem dX7_drifts_14 : decode cX7_drifts 14 = .ok (.iload_n 2, 1) := by decide +kernel
theorem dX7_drifts_15 : decode cX7_drifts 15 = .ok (.invokevirtual 241, 3) := by decide +kernel
theorem dX7_drifts_18 : decode cX7_drifts 18 = .ok (.goto 8, 3) := by decide +kernel
theorem dX7_drifts_21 : decode cX7_drifts 21 = .ok (.aload_n 0, 1) := by decide +kernel
theorem dX7_drifts_22 : decode cX7_drifts 22 = .ok (.iload_n 1, 1) := by decide +kernel
theorem dX7_drifts_23 : decode cX7_drifts 23 = .ok (.invokevirtual 188, 3) := by decide +kernel
theorem dX7_drifts_26 : decode cX7_drifts 26 = .ok (.ireturn, 1) := by decide +kernel
theorem dX7_go_0 : decode cX7_go 0 = .ok (.iload_n 1, 1) := by decide +kernel
theorem dX7_go_1 : decode cX7_go 1 = .ok (.iconst 1, 1) := by decide +kernel
theorem dX7_go_2 : decode cX7_go 2 = .ok (.bipush 60, 2) := by decide +kernel
theorem dX7_go_4 : decode cX7_go 4 = .ok (.invokestatic 69, 3) := by decide +kernel
theorem dX7_go_7 : decode cX7_go 7 = .ok (.istore_n 2, 1) := by decide +kernel
theorem dX7_go_8 : decode cX7_go 8 = .ok (.iload_n 2, 1) := by decide +kernel
theorem dX7_go_9 : decode cX7_go 9 = .ok (.ifCond .ne 18, 3) := by decide +kernel
theorem dX7_go_12 : decode cX7_go 12 = .ok (.aload_n 0, 1) := by decide +kernel
theorem dX7_go_13 : decode cX7_go 13 = .ok (.getfield 138, 3) := by decide +kernel
theorem dX7_go_16 : decode cX7_go 16 = .ok (.iload_n 1, 1) := by decide +kernel
theorem dX7_go_17 : decode cX7_go 17 = .ok (.iadd, 1) := by decide +kernel
theorem dX7_go_18 : decode cX7_go 18 = .ok (.sipush 9999, 3) := by decide +kernel
theorem dX7_go_21 : decode cX7_go 21 = .ok (.if_icmp .le 6, 3) := by decide +kernel
theorem dX7_go_24 : decode cX7_go 24 = .ok (.bipush (-6), 2) := by decide +kernel
theorem dX7_go_26 : decode cX7_go 26 = .ok (.istore_n 2, 1) := by decide +kernel
theorem dX7_go_27 : decode cX7_go 27 = .ok (.iload_n 2, 1) := by decide +kernel
theorem dX7_go_28 : decode cX7_go 28 = .ok (.ifCond .eq 9, 3) := by decide +kernel
theorem dX7_go_31 : decode cX7_go 31 = .ok (.aload_n 0, 1) := by decide +kernel
theorem dX7_go_32 : decode cX7_go 32 = .ok (.iload_n 2, 1) := by decide +kernel
theorem dX7_go_33 : decode cX7_go 33 = .ok (.invokevirtual 76, 3) := by decide +kernel
theorem dX7_go_36 : decode cX7_go 36 = .ok (.ireturn, 1) := by decide +kernel
theorem dX7_go_37 : decode cX7_go 37 = .ok (.aload_n 0, 1) := by decide +kernel
theorem dX7_go_38 : decode cX7_go 38 = .ok (.iload_n 1, 1) := by decide +kernel
theorem dX7_go_39 : decode cX7_go 39 = .ok (.invokevirtual 141, 3) := by decide +kernel
theorem dX7_go_42 : decode cX7_go 42 = .ok (.aload_n 0, 1) := by decide +kernel
theorem dX7_go_43 : decode cX7_go 43 = .ok (.getfield 191, 3) := by decide +kernel
theorem dX7_go_46 : decode cX7_go 46 = .ok (.ireturn, 1) := by decide +kernel
theorem dX7_cost_0 : decode cX7_cost 0 = .ok (.iload_n 1, 1) := by decide +kernel
theorem dX7_cost_1 : decode cX7_cost 1 = .ok (.iconst 0, 1) := by decide +kernel
theorem dX7_cost_2 : decode cX7_cost 2 = .ok (.sipush 240, 3) := by decide +kernel
theorem dX7_cost_5 : decode cX7_cost 5 = .ok (.invokestatic 69, 3) := by decide +kernel
theorem dX7_cost_8 : decode cX7_cost 8 = .ok (.istore_n 3, 1) := by decide +kernel
theorem dX7_cost_9 : decode cX7_cost 9 = .ok (.iload_n 3, 1) := by decide +kernel
theorem dX7_cost_10 : decode cX7_cost 10 = .ok (.ifCond .ne 15, 3) := by decide +kernel
theorem dX7_cost_13 : decode cX7_cost 13 = .ok (.iload_n 2, 1) := by decide +kernel
theorem dX7_cost_14 : decode cX7_cost 14 = .ok (.iconst 0, 1) := by decide +kernel
theorem dX7_cost_15 : decode cX7_cost 15 = .ok (.iconst 4, 1) := by decide +kernel
theorem dX7_cost_16 : decode cX7_cost 16 = .ok (.invokestatic 87, 3) := by decide +kernel
theorem dX7_cost_19 : decode cX7_cost 19 = .ok (.ifCond .ne 6, 3) := by decide +kernel
theorem dX7_cost_22 : decode cX7_cost 22 = .ok (.bipush (-2), 2) := by decide +kernel
theorem dX7_cost_24 : decode cX7_cost 24 = .ok (.istore_n 3, 1) := by decide +kernel
theorem dX7_cost_25 : decode cX7_cost 25 = .ok (.iload_n 3, 1) := by decide +kernel
theorem dX7_cost_26 : decode cX7_cost 26 = .ok (.ifCond .eq 9, 3) := by decide +kernel
theorem dX7_cost_29 : decode cX7_cost 29 = .ok (.aload_n 0, 1) := by decide +kernel
theorem dX7_cost_30 : decode cX7_cost 30 = .ok (.iload_n 3, 1) := by decide +kernel
theorem dX7_cost_31 : decode cX7_cost 31 = .ok (.invokevirtual 76, 3) := by decide +kernel
theorem dX7_cost_34 : decode cX7_cost 34 = .ok (.ireturn, 1) := by decide +kernel
theorem dX7_cost_35 : decode cX7_cost 35 = .ok (.aload_n 0, 1) := by decide +kernel
theorem dX7_cost_36 : decode cX7_cost 36 = .ok (.iload_n 1, 1) := by decide +kernel
theorem dX7_cost_37 : decode cX7_cost 37 = .ok (.invokevirtual 235, 3) := by decide +kernel
theorem dX7_cost_40 : decode cX7_cost 40 = .ok (.istore 4, 2) := by decide +kernel
theorem dX7_cost_42 : decode cX7_cost 42 = .ok (.iload_n 2, 1) := by decide +kernel
theorem dX7_cost_43 : decode cX7_cost 43 = .ok (.ifCond .ne 8, 3) := by decide +kernel
theorem dX7_cost_46 : decode cX7_cost 46 = .ok (.iload 4, 2) := by decide +kernel
theorem dX7_cost_48 : decode cX7_cost 48 = .ok (.goto 43, 3) := by decide +kernel
theorem dX7_cost_51 : decode cX7_cost 51 = .ok (.iload_n 2, 1) := by decide +kernel
theorem dX7_cost_52 : decode cX7_cost 52 = .ok (.iconst 1, 1) := by decide +kernel
theorem dX7_cost_53 : decode cX7_cost 53 = .ok (.if_icmp .ne 10, 3) := by decide +kernel
theorem dX7_cost_56 : decode cX7_cost 56 = .ok (.aload_n 0, 1) := by decide +kernel
theorem dX7_cost_57 : decode cX7_cost 57 = .ok (.getfield 191, 3) := by decide +kernel
theorem dX7_cost_60 : decode cX7_cost 60 = .ok (.goto 31, 3) := by decide +kernel
theorem dX7_cost_63 : decode cX7_cost 63 = .ok (.iload_n 2, 1) := by decide +kernel
theorem dX7_cost_64 : decode cX7_cost 64 = .ok (.iconst 2, 1) := by decide +kernel
theorem dX7_cost_65 : decode cX7_cost 65 = .ok (.if_icmp .ne 10, 3) := by decide +kernel
theorem dX7_cost_68 : decode cX7_cost 68 = .ok (.aload_n 0, 1) := by decide +kernel
theorem dX7_cost_69 : decode cX7_cost 69 = .ok (.getfield 194, 3) := by decide +kernel
theorem dX7_cost_72 : decode cX7_cost 72 = .ok (.goto 19, 3) := by decide +kernel
theorem dX7_cost_75 : decode cX7_cost 75 = .ok (.iload_n 2, 1) := by decide +kernel
theorem dX7_cost_76 : decode cX7_cost 76 = .ok (.iconst 3, 1) := by decide +kernel
theorem dX7_cost_77 : decode cX7_cost 77 = .ok (.if_icmp .ne 10, 3) := by decide +kernel
theorem dX7_cost_80 : decode cX7_cost 80 = .ok (.aload_n 0, 1) := by decide +kernel
theorem dX7_cost_81 : decode cX7_cost 81 = .ok (.getfield 197, 3) := by decide +kernel
theorem dX7_cost_84 : decode cX7_cost 84 = .ok (.goto 7, 3) := by decide +kernel
theorem dX7_cost_87 : decode cX7_cost 87 = .ok (.aload_n 0, 1) := by decide +kernel
theorem dX7_cost_88 : decode cX7_cost 88 = .ok (.getfield 200, 3) := by decide +kernel
theorem dX7_cost_91 : decode cX7_cost 91 = .ok (.ireturn, 1) := by decide +kernel
theorem dX7_at_0 : decode cX7_at 0 = .ok (.iload_n 1, 1) := by decide +kernel
theorem dX7_at_1 : decode cX7_at 1 = .ok (.iconst 0, 1) := by decide +kernel
theorem dX7_at_2 : decode cX7_at 2 = .ok (.sipush 240, 3) := by decide +kernel
theorem dX7_at_5 : decode cX7_at 5 = .ok (.invokestatic 69, 3) := by decide +kernel
theorem dX7_at_8 : decode cX7_at 8 = .ok (.istore_n 2, 1) := by decide +kernel
theorem dX7_at_9 : decode cX7_at 9 = .ok (.iload_n 2, 1) := by decide +kernel
theorem dX7_at_10 : decode cX7_at 10 = .ok (.ifCond .eq 9, 3) := by decide +kernel
theorem dX7_at_13 : decode cX7_at 13 = .ok (.aload_n 0, 1) := by decide +kernel
theorem dX7_at_14 : decode cX7_at 14 = .ok (.iload_n 2, 1) := by decide +kernel
theorem dX7_at_15 : decode cX7_at 15 = .ok (.invokevirtual 241, 3) := by decide +kernel
theorem dX7_at_18 : decode cX7_at 18 = .ok (.ireturn, 1) := by decide +kernel
theorem dX7_at_19 : decode cX7_at 19 = .ok (.aload_n 0, 1) := by decide +kernel
theorem dX7_at_20 : decode cX7_at 20 = .ok (.iload_n 1, 1) := by decide +kernel
theorem dX7_at_21 : decode cX7_at 21 = .ok (.invokevirtual 235, 3) := by decide +kernel
theorem dX7_at_24 : decode cX7_at 24 = .ok (.pop, 1) := by decide +kernel
theorem dX7_at_25 : decode cX7_at 25 = .ok (.iload_n 1, 1) := by decide +kernel
theorem dX7_at_26 : decode cX7_at 26 = .ok (.ifCond .ne 12, 3) := by decide +kernel
theorem dX7_at_29 : decode cX7_at 29 = .ok (.aload_n 0, 1) := by decide +kernel
theorem dX7_at_30 : decode cX7_at 30 = .ok (.getfield 13, 3) := by decide +kernel
theorem dX7_at_33 : decode cX7_at 33 = .ok (.iconst 0, 1) := by decide +kernel
theorem dX7_at_34 : decode cX7_at 34 = .ok (.iaload, 1) := by decide +kernel
theorem dX7_at_35 : decode cX7_at 35 = .ok (.goto 11, 3) := by decide +kernel
theorem dX7_at_38 : decode cX7_at 38 = .ok (.aload_n 0, 1) := by decide +kernel
theorem dX7_at_39 : decode cX7_at 39 = .ok (.getfield 55, 3) := by decide +kernel
theorem dX7_at_42 : decode cX7_at 42 = .ok (.iload_n 1, 1) := by decide +kernel
theorem dX7_at_43 : decode cX7_at 43 = .ok (.iconst 1, 1) := by decide +kernel
theorem dX7_at_44 : decode cX7_at 44 = .ok (.isub, 1) := by decide +kernel
theorem dX7_at_45 : decode cX7_at 45 = .ok (.iaload, 1) := by decide +kernel
theorem dX7_at_46 : decode cX7_at 46 = .ok (.ireturn, 1) := by decide +kernel
theorem dX7_bothOf_0 : decode cX7_bothOf 0 = .ok (.aload_n 0, 1) := by decide +kernel
theorem dX7_bothOf_1 : decode cX7_bothOf 1 = .ok (.getfield 49, 3) := by decide +kernel
theorem dX7_bothOf_4 : decode cX7_bothOf 4 = .ok (.iload_n 1, 1) := by decide +kernel
theorem dX7_bothOf_5 : decode cX7_bothOf 5 = .ok (.iaload, 1) := by decide +kernel
theorem dX7_bothOf_6 : decode cX7_bothOf 6 = .ok (.aload_n 0, 1) := by decide +kernel
theorem dX7_bothOf_7 : decode cX7_bothOf 7 = .ok (.getfield 52, 3) := by decide +kernel
theorem dX7_bothOf_10 : decode cX7_bothOf 10 = .ok (.iload_n 1, 1) := by decide +kernel
theorem dX7_bothOf_11 : decode cX7_bothOf 11 = .ok (.iaload, 1) := by decide +kernel
theorem dX7_bothOf_12 : decode cX7_bothOf 12 = .ok (.aload_n 0, 1) := by decide +kernel
theorem dX7_bothOf_13 : decode cX7_bothOf 13 = .ok (.getfield 31, 3) := by decide +kernel
theorem dX7_bothOf_16 : decode cX7_bothOf 16 = .ok (.iload_n 1, 1) := by decide +kernel
theorem dX7_bothOf_17 : decode cX7_bothOf 17 = .ok (.iaload, 1) := by decide +kernel
theorem dX7_bothOf_18 : decode cX7_bothOf 18 = .ok (.imul, 1) := by decide +kernel
theorem dX7_bothOf_19 : decode cX7_bothOf 19 = .ok (.iadd, 1) := by decide +kernel
theorem dX7_bothOf_20 : decode cX7_bothOf 20 = .ok (.ireturn, 1) := by decide +kernel
theorem dX7_of_0 : decode cX7_of 0 = .ok (.aload_n 0, 1) := by decide +kernel
theorem dX7_of_1 : decode cX7_of 1 = .ok (.iload_n 1, 1) := by decide +kernel
theorem dX7_of_2 : decode cX7_of 2 = .ok (.invokevirtual 238, 3) := by decide +kernel
theorem dX7_of_5 : decode cX7_of 5 = .ok (.ifCond .ne 7, 3) := by decide +kernel
theorem dX7_of_8 : decode cX7_of 8 = .ok (.iconst (-1), 1) := by decide +kernel
theorem dX7_of_9 : decode cX7_of 9 = .ok (.goto 11, 3) := by decide +kernel
theorem dX7_of_12 : decode cX7_of 12 = .ok (.iload_n 2, 1) := by decide +kernel
theorem dX7_of_13 : decode cX7_of 13 = .ok (.iconst 0, 1) := by decide +kernel
theorem dX7_of_14 : decode cX7_of 14 = .ok (.sipush 240, 3) := by decide +kernel
theorem dX7_of_17 : decode cX7_of 17 = .ok (.invokestatic 69, 3) := by decide +kernel
theorem dX7_of_20 : decode cX7_of 20 = .ok (.istore 4, 2) := by decide +kernel
theorem dX7_of_22 : decode cX7_of 22 = .ok (.iload 4, 2) := by decide +kernel
theorem dX7_of_24 : decode cX7_of 24 = .ok (.ifCond .ne 16, 3) := by decide +kernel
theorem dX7_of_27 : decode cX7_of 27 = .ok (.iload_n 3, 1) := by decide +kernel
theorem dX7_of_28 : decode cX7_of 28 = .ok (.iconst 0, 1) := by decide +kernel
theorem dX7_of_29 : decode cX7_of 29 = .ok (.iconst 2, 1) := by decide +kernel
theorem dX7_of_30 : decode cX7_of 30 = .ok (.invokestatic 87, 3) := by decide +kernel
theorem dX7_of_33 : decode cX7_of 33 = .ok (.ifCond .ne 7, 3) := by decide +kernel
theorem dX7_of_36 : decode cX7_of 36 = .ok (.bipush (-2), 2) := by decide +kernel
theorem dX7_of_38 : decode cX7_of 38 = .ok (.istore 4, 2) := by decide +kernel
theorem dX7_of_40 : decode cX7_of 40 = .ok (.iload 4, 2) := by decide +kernel
theorem dX7_of_42 : decode cX7_of 42 = .ok (.ifCond .eq 10, 3) := by decide +kernel
theorem dX7_of_45 : decode cX7_of 45 = .ok (.aload_n 0, 1) := by decide +kernel
theorem dX7_of_46 : decode cX7_of 46 = .ok (.iload 4, 2) := by decide +kernel
theorem dX7_of_48 : decode cX7_of 48 = .ok (.invokevirtual 76, 3) := by decide +kernel
theorem dX7_of_51 : decode cX7_of 51 = .ok (.ireturn, 1) := by decide +kernel
theorem dX7_of_52 : decode cX7_of 52 = .ok (.aload_n 0, 1) := by decide +kernel
theorem dX7_of_53 : decode cX7_of 53 = .ok (.iload_n 2, 1) := by decide +kernel
theorem dX7_of_54 : decode cX7_of 54 = .ok (.invokevirtual 235, 3) := by decide +kernel
theorem dX7_of_57 : decode cX7_of 57 = .ok (.pop, 1) := by decide +kernel
theorem dX7_of_58 : decode cX7_of 58 = .ok (.iload_n 3, 1) := by decide +kernel
theorem dX7_of_59 : decode cX7_of 59 = .ok (.ifCond .ne 12, 3) := by decide +kernel
theorem dX7_of_62 : decode cX7_of 62 = .ok (.aload_n 0, 1) := by decide +kernel
theorem dX7_of_63 : decode cX7_of 63 = .ok (.getfield 49, 3) := by decide +kernel
theorem dX7_of_66 : decode cX7_of 66 = .ok (.iload_n 1, 1) := by decide +kernel
theorem dX7_of_67 : decode cX7_of 67 = .ok (.iaload, 1) := by decide +kernel
theorem dX7_of_68 : decode cX7_of 68 = .ok (.goto 22, 3) := by decide +kernel
theorem dX7_of_71 : decode cX7_of 71 = .ok (.iload_n 3, 1) := by decide +kernel
theorem dX7_of_72 : decode cX7_of 72 = .ok (.iconst 1, 1) := by decide +kernel
theorem dX7_of_73 : decode cX7_of 73 = .ok (.if_icmp .ne 12, 3) := by decide +kernel
theorem dX7_of_76 : decode cX7_of 76 = .ok (.aload_n 0, 1) := by decide +kernel
theorem dX7_of_77 : decode cX7_of 77 = .ok (.getfield 52, 3) := by decide +kernel
theorem dX7_of_80 : decode cX7_of 80 = .ok (.iload_n 1, 1) := by decide +kernel
theorem dX7_of_81 : decode cX7_of 81 = .ok (.iaload, 1) := by decide +kernel
theorem dX7_of_82 : decode cX7_of 82 = .ok (.goto 8, 3) := by decide +kernel
theorem dX7_of_85 : decode cX7_of 85 = .ok (.aload_n 0, 1) := by decide +kernel
theorem dX7_of_86 : decode cX7_of 86 = .ok (.iload_n 1, 1) := by decide +kernel
theorem dX7_of_87 : decode cX7_of 87 = .ok (.invokevirtual 244, 3) := by decide +kernel
theorem dX7_of_90 : decode cX7_of 90 = .ok (.ireturn, 1) := by decide +kernel
theorem dX7_bestSet_0 : decode cX7_bestSet 0 = .ok (.iload_n 1, 1) := by decide +kernel
theorem dX7_bestSet_1 : decode cX7_bestSet 1 = .ok (.invokestatic 120, 3) := by decide +kernel
theorem dX7_bestSet_4 : decode cX7_bestSet 4 = .ok (.istore_n 3, 1) := by decide +kernel
theorem dX7_bestSet_5 : decode cX7_bestSet 5 = .ok (.aload_n 0, 1) := by decide +kernel
theorem dX7_bestSet_6 : decode cX7_bestSet 6 = .ok (.iload_n 1, 1) := by decide +kernel
theorem dX7_bestSet_7 : decode cX7_bestSet 7 = .ok (.iload_n 3, 1) := by decide +kernel
theorem dX7_bestSet_8 : decode cX7_bestSet 8 = .ok (.iload_n 2, 1) := by decide +kernel
theorem dX7_bestSet_9 : decode cX7_bestSet 9 = .ok (.invokevirtual 247, 3) := by decide +kernel
theorem dX7_bestSet_12 : decode cX7_bestSet 12 = .ok (.istore 4, 2) := by decide +kernel
theorem dX7_bestSet_14 : decode cX7_bestSet 14 = .ok (.iload_n 3, 1) := by decide +kernel
theorem dX7_bestSet_15 : decode cX7_bestSet 15 = .ok (.iconst 1, 1) := by decide +kernel
theorem dX7_bestSet_16 : decode cX7_bestSet 16 = .ok (.iadd, 1) := by decide +kernel
theorem dX7_bestSet_17 : decode cX7_bestSet 17 = .ok (.istore 5, 2) := by decide +kernel
theorem dX7_bestSet_19 : decode cX7_bestSet 19 = .ok (.iload 5, 2) := by decide +kernel
theorem dX7_bestSet_21 : decode cX7_bestSet 21 = .ok (.iload_n 1, 1) := by decide +kernel
theorem dX7_bestSet_22 : decode cX7_bestSet 22 = .ok (.invokestatic 123, 3) := by decide +kernel
theorem dX7_bestSet_25 : decode cX7_bestSet 25 = .ok (.if_icmp .gt 36, 3) := by decide +kernel
theorem dX7_bestSet_28 : decode cX7_bestSet 28 = .ok (.aload_n 0, 1) := by decide +kernel
theorem dX7_bestSet_29 : decode cX7_bestSet 29 = .ok (.iload_n 1, 1) := by decide +kernel
theorem dX7_bestSet_30 : decode cX7_bestSet 30 = .ok (.iload 5, 2) := by decide +kernel
theorem dX7_bestSet_32 : decode cX7_bestSet 32 = .ok (.iload_n 2, 1) := by decide +kernel
theorem dX7_bestSet_33 : decode cX7_bestSet 33 = .ok (.invokevirtual 247, 3) := by decide +kernel
theorem dX7_bestSet_36 : decode cX7_bestSet 36 = .ok (.istore 6, 2) := by decide +kernel
theorem dX7_bestSet_38 : decode cX7_bestSet 38 = .ok (.iload 6, 2) := by decide +kernel
theorem dX7_bestSet_40 : decode cX7_bestSet 40 = .ok (.iload 4, 2) := by decide +kernel
theorem dX7_bestSet_42 : decode cX7_bestSet 42 = .ok (.if_icmp .lt 6, 3) := by decide +kernel
theorem dX7_bestSet_45 : decode cX7_bestSet 45 = .ok (.goto 10, 3) := by decide +kernel
theorem dX7_bestSet_48 : decode cX7_bestSet 48 = .ok (.iload 5, 2) := by decide +kernel
theorem dX7_bestSet_50 : decode cX7_bestSet 50 = .ok (.istore_n 3, 1) := by decide +kernel
theorem dX7_bestSet_51 : decode cX7_bestSet 51 = .ok (.iload 6, 2) := by decide +kernel
theorem dX7_bestSet_53 : decode cX7_bestSet 53 = .ok (.istore 4, 2) := by decide +kernel
theorem dX7_bestSet_55 : decode cX7_bestSet 55 = .ok (.iinc 5 1, 3) := by decide +kernel
theorem dX7_bestSet_58 : decode cX7_bestSet 58 = .ok (.goto (-39), 3) := by decide +kernel
theorem dX7_bestSet_61 : decode cX7_bestSet 61 = .ok (.iload_n 3, 1) := by decide +kernel
theorem dX7_bestSet_62 : decode cX7_bestSet 62 = .ok (.ireturn, 1) := by decide +kernel
theorem dX7_bestRule_0 : decode cX7_bestRule 0 = .ok (.iconst 0, 1) := by decide +kernel
theorem dX7_bestRule_1 : decode cX7_bestRule 1 = .ok (.istore_n 2, 1) := by decide +kernel
theorem dX7_bestRule_2 : decode cX7_bestRule 2 = .ok (.iconst 1, 1) := by decide +kernel
theorem dX7_bestRule_3 : decode cX7_bestRule 3 = .ok (.istore_n 3, 1) := by decide +kernel
theorem dX7_bestRule_4 : decode cX7_bestRule 4 = .ok (.iload_n 3, 1) := by decide +kernel
theorem dX7_bestRule_5 : decode cX7_bestRule 5 = .ok (.iconst 5, 1) := by decide +kernel
theorem dX7_bestRule_6 : decode cX7_bestRule 6 = .ok (.if_icmp .ge 30, 3) := by decide +kernel
theorem dX7_bestRule_9 : decode cX7_bestRule 9 = .ok (.aload_n 0, 1) := by decide +kernel
theorem dX7_bestRule_10 : decode cX7_bestRule 10 = .ok (.iload_n 3, 1) := by decide +kernel
theorem dX7_bestRule_11 : decode cX7_bestRule 11 = .ok (.iload_n 1, 1) := by decide +kernel
theorem dX7_bestRule_12 : decode cX7_bestRule 12 = .ok (.invokevirtual 250, 3) := by decide +kernel
theorem dX7_bestRule_15 : decode cX7_bestRule 15 = .ok (.aload_n 0, 1) := by decide +kernel
theorem dX7_bestRule_16 : decode cX7_bestRule 16 = .ok (.iload_n 2, 1) := by decide +kernel
theorem dX7_bestRule_17 : decode cX7_bestRule 17 = .ok (.iload_n 1, 1) := by decide +kernel
theorem dX7_bestRule_18 : decode cX7_bestRule 18 = .ok (.invokevirtual 250, 3) := by decide +kernel
theorem dX7_bestRule_21 : decode cX7_bestRule 21 = .ok (.if_icmp .ge 7, 3) := by decide +kernel
theorem dX7_bestRule_24 : decode cX7_bestRule 24 = .ok (.iload_n 3, 1) := by decide +kernel
theorem dX7_bestRule_25 : decode cX7_bestRule 25 = .ok (.goto 4, 3) := by decide +kernel
theorem dX7_bestRule_28 : decode cX7_bestRule 28 = .ok (.iload_n 2, 1) := by decide +kernel
theorem dX7_bestRule_29 : decode cX7_bestRule 29 = .ok (.istore_n 2, 1) := by decide +kernel
theorem dX7_bestRule_30 : decode cX7_bestRule 30 = .ok (.iinc 3 1, 3) := by decide +kernel
theorem dX7_bestRule_33 : decode cX7_bestRule 33 = .ok (.goto (-29), 3) := by decide +kernel
theorem dX7_bestRule_36 : decode cX7_bestRule 36 = .ok (.iload_n 2, 1) := by decide +kernel
theorem dX7_bestRule_37 : decode cX7_bestRule 37 = .ok (.ireturn, 1) := by decide +kernel
theorem dX7_bestFirst_0 : decode cX7_bestFirst 0 = .ok (.aload_n 0, 1) := by decide +kernel
theorem dX7_bestFirst_1 : decode cX7_bestFirst 1 = .ok (.getfield 65, 3) := by decide +kernel
theorem dX7_bestFirst_4 : decode cX7_bestFirst 4 = .ok (.ifCond .ne 8, 3) := by decide +kernel
theorem dX7_bestFirst_7 : decode cX7_bestFirst 7 = .ok (.bipush (-9), 2) := by decide +kernel
theorem dX7_bestFirst_9 : decode cX7_bestFirst 9 = .ok (.goto 4, 3) := by decide +kernel
theorem dX7_bestFirst_12 : decode cX7_bestFirst 12 = .ok (.iconst 0, 1) := by decide +kernel
theorem dX7_bestFirst_13 : decode cX7_bestFirst 13 = .ok (.istore_n 2, 1) := by decide +kernel
theorem dX7_bestFirst_14 : decode cX7_bestFirst 14 = .ok (.iconst 1, 1) := by decide +kernel
theorem dX7_bestFirst_15 : decode cX7_bestFirst 15 = .ok (.istore_n 3, 1) := by decide +kernel
theorem dX7_bestFirst_16 : decode cX7_bestFirst 16 = .ok (.iload_n 3, 1) := by decide +kernel
theorem dX7_bestFirst_17 : decode cX7_bestFirst 17 = .ok (.aload_n 0, 1) := by decide +kernel
theorem dX7_bestFirst_18 : decode cX7_bestFirst 18 = .ok (.getfield 65, 3) := by decide +kernel
theorem dX7_bestFirst_21 : decode cX7_bestFirst 21 = .ok (.if_icmp .ge 30, 3) := by decide +kernel
theorem dX7_bestFirst_24 : decode cX7_bestFirst 24 = .ok (.aload_n 0, 1) := by decide +kernel
theorem dX7_bestFirst_25 : decode cX7_bestFirst 25 = .ok (.iload_n 3, 1) := by decide +kernel
theorem dX7_bestFirst_26 : decode cX7_bestFirst 26 = .ok (.iload_n 1, 1) := by decide +kernel
theorem dX7_bestFirst_27 : decode cX7_bestFirst 27 = .ok (.invokevirtual 253, 3) := by decide +kernel
theorem dX7_bestFirst_30 : decode cX7_bestFirst 30 = .ok (.aload_n 0, 1) := by decide +kernel
theorem dX7_bestFirst_31 : decode cX7_bestFirst 31 = .ok (.iload_n 2, 1) := by decide +kernel
theorem dX7_bestFirst_32 : decode cX7_bestFirst 32 = .ok (.iload_n 1, 1) := by decide +kernel
theorem dX7_bestFirst_33 : decode cX7_bestFirst 33 = .ok (.invokevirtual 253, 3) := by decide +kernel
theorem dX7_bestFirst_36 : decode cX7_bestFirst 36 = .ok (.if_icmp .ge 7, 3) := by decide +kernel
theorem dX7_bestFirst_39 : decode cX7_bestFirst 39 = .ok (.iload_n 3, 1) := by decide +kernel
theorem dX7_bestFirst_40 : decode cX7_bestFirst 40 = .ok (.goto 4, 3) := by decide +kernel
theorem dX7_bestFirst_43 : decode cX7_bestFirst 43 = .ok (.iload_n 2, 1) := by decide +kernel
theorem dX7_bestFirst_44 : decode cX7_bestFirst 44 = .ok (.istore_n 2, 1) := by decide +kernel
theorem dX7_bestFirst_45 : decode cX7_bestFirst 45 = .ok (.iinc 3 1, 3) := by decide +kernel
theorem dX7_bestFirst_48 : decode cX7_bestFirst 48 = .ok (.goto (-32), 3) := by decide +kernel
theorem dX7_bestFirst_51 : decode cX7_bestFirst 51 = .ok (.iload_n 2, 1) := by decide +kernel
theorem dX7_bestFirst_52 : decode cX7_bestFirst 52 = .ok (.ireturn, 1) := by decide +kernel
theorem dX7_best_0 : decode cX7_best 0 = .ok (.iload_n 1, 1) := by decide +kernel
theorem dX7_best_1 : decode cX7_best 1 = .ok (.iconst 0, 1) := by decide +kernel
theorem dX7_best_2 : decode cX7_best 2 = .ok (.sipush 240, 3) := by decide +kernel
theorem dX7_best_5 : decode cX7_best 5 = .ok (.invokestatic 69, 3) := by decide +kernel
theorem dX7_best_8 : decode cX7_best 8 = .ok (.istore_n 3, 1) := by decide +kernel
theorem dX7_best_9 : decode cX7_best 9 = .ok (.iload_n 3, 1) := by decide +kernel
theorem dX7_best_10 : decode cX7_best 10 = .ok (.ifCond .ne 15, 3) := by decide +kernel
theorem dX7_best_13 : decode cX7_best 13 = .ok (.iload_n 2, 1) := by decide +kernel
theorem dX7_best_14 : decode cX7_best 14 = .ok (.iconst 0, 1) := by decide +kernel
theorem dX7_best_15 : decode cX7_best 15 = .ok (.iconst 3, 1) := by decide +kernel
theorem dX7_best_16 : decode cX7_best 16 = .ok (.invokestatic 87, 3) := by decide +kernel
theorem dX7_best_19 : decode cX7_best 19 = .ok (.ifCond .ne 6, 3) := by decide +kernel
theorem dX7_best_22 : decode cX7_best 22 = .ok (.bipush (-2), 2) := by decide +kernel
theorem dX7_best_24 : decode cX7_best 24 = .ok (.istore_n 3, 1) := by decide +kernel
theorem dX7_best_25 : decode cX7_best 25 = .ok (.iload_n 3, 1) := by decide +kernel
theorem dX7_best_26 : decode cX7_best 26 = .ok (.ifCond .eq 9, 3) := by decide +kernel
theorem dX7_best_29 : decode cX7_best 29 = .ok (.aload_n 0, 1) := by decide +kernel
theorem dX7_best_30 : decode cX7_best 30 = .ok (.iload_n 3, 1) := by decide +kernel
theorem dX7_best_31 : decode cX7_best 31 = .ok (.invokevirtual 76, 3) := by decide +kernel
theorem dX7_best_34 : decode cX7_best 34 = .ok (.ireturn, 1) := by decide +kernel
theorem dX7_best_35 : decode cX7_best 35 = .ok (.iload_n 2, 1) := by decide +kernel
theorem dX7_best_36 : decode cX7_best 36 = .ok (.ifCond .ne 12, 3) := by decide +kernel
theorem dX7_best_39 : decode cX7_best 39 = .ok (.aload_n 0, 1) := by decide +kernel
theorem dX7_best_40 : decode cX7_best 40 = .ok (.iconst 4, 1) := by decide +kernel
theorem dX7_best_41 : decode cX7_best 41 = .ok (.iload_n 1, 1) := by decide +kernel
theorem dX7_best_42 : decode cX7_best 42 = .ok (.invokevirtual 256, 3) := by decide +kernel
theorem dX7_best_45 : decode cX7_best 45 = .ok (.goto 35, 3) := by decide +kernel
theorem dX7_best_48 : decode cX7_best 48 = .ok (.iload_n 2, 1) := by decide +kernel
theorem dX7_best_49 : decode cX7_best 49 = .ok (.iconst 1, 1) := by decide +kernel
theorem dX7_best_50 : decode cX7_best 50 = .ok (.if_icmp .ne 12, 3) := by decide +kernel
theorem dX7_best_53 : decode cX7_best 53 = .ok (.aload_n 0, 1) := by decide +kernel
theorem dX7_best_54 : decode cX7_best 54 = .ok (.iconst 5, 1) := by decide +kernel
theorem dX7_best_55 : decode cX7_best 55 = .ok (.iload_n 1, 1) := by decide +kernel
theorem dX7_best_56 : decode cX7_best 56 = .ok (.invokevirtual 256, 3) := by decide +kernel
theorem dX7_best_59 : decode cX7_best 59 = .ok (.goto 21, 3) := by decide +kernel
theorem dX7_best_62 : decode cX7_best 62 = .ok (.iload_n 2, 1) := by decide +kernel
theorem dX7_best_63 : decode cX7_best 63 = .ok (.iconst 2, 1) := by decide +kernel
theorem dX7_best_64 : decode cX7_best 64 = .ok (.if_icmp .ne 11, 3) := by decide +kernel
theorem dX7_best_67 : decode cX7_best 67 = .ok (.aload_n 0, 1) := by decide +kernel
theorem dX7_best_68 : decode cX7_best 68 = .ok (.iload_n 1, 1) := by decide +kernel
theorem dX7_best_69 : decode cX7_best 69 = .ok (.invokevirtual 259, 3) := by decide +kernel
theorem dX7_best_72 : decode cX7_best 72 = .ok (.goto 8, 3) := by decide +kernel
theorem dX7_best_75 : decode cX7_best 75 = .ok (.aload_n 0, 1) := by decide +kernel
theorem dX7_best_76 : decode cX7_best 76 = .ok (.iload_n 1, 1) := by decide +kernel
theorem dX7_best_77 : decode cX7_best 77 = .ok (.invokevirtual 262, 3) := by decide +kernel
theorem dX7_best_80 : decode cX7_best 80 = .ok (.ireturn, 1) := by decide +kernel
theorem dX7_finer_0 : decode cX7_finer 0 = .ok (.iload_n 1, 1) := by decide +kernel
theorem dX7_finer_1 : decode cX7_finer 1 = .ok (.iconst 0, 1) := by decide +kernel
theorem dX7_finer_2 : decode cX7_finer 2 = .ok (.sipush 240, 3) := by decide +kernel
theorem dX7_finer_5 : decode cX7_finer 5 = .ok (.invokestatic 69, 3) := by decide +kernel
theorem dX7_finer_8 : decode cX7_finer 8 = .ok (.istore_n 3, 1) := by decide +kernel
theorem dX7_finer_9 : decode cX7_finer 9 = .ok (.iload_n 3, 1) := by decide +kernel
theorem dX7_finer_10 : decode cX7_finer 10 = .ok (.ifCond .ne 13, 3) := by decide +kernel
theorem dX7_finer_13 : decode cX7_finer 13 = .ok (.aload_n 0, 1) := by decide +kernel
theorem dX7_finer_14 : decode cX7_finer 14 = .ok (.iload_n 2, 1) := by decide +kernel
theorem dX7_finer_15 : decode cX7_finer 15 = .ok (.invokevirtual 238, 3) := by decide +kernel
theorem dX7_finer_18 : decode cX7_finer 18 = .ok (.ifCond .ne 5, 3) := by decide +kernel
theorem dX7_finer_21 : decode cX7_finer 21 = .ok (.iconst (-1), 1) := by decide +kernel
theorem dX7_finer_22 : decode cX7_finer 22 = .ok (.istore_n 3, 1) := by decide +kernel
theorem dX7_finer_23 : decode cX7_finer 23 = .ok (.iload_n 3, 1) := by decide +kernel
theorem dX7_finer_24 : decode cX7_finer 24 = .ok (.ifCond .eq 9, 3) := by decide +kernel
theorem dX7_finer_27 : decode cX7_finer 27 = .ok (.aload_n 0, 1) := by decide +kernel
theorem dX7_finer_28 : decode cX7_finer 28 = .ok (.iload_n 3, 1) := by decide +kernel
theorem dX7_finer_29 : decode cX7_finer 29 = .ok (.invokevirtual 241, 3) := by decide +kernel
theorem dX7_finer_32 : decode cX7_finer 32 = .ok (.ireturn, 1) := by decide +kernel
theorem dX7_finer_33 : decode cX7_finer 33 = .ok (.aload_n 0, 1) := by decide +kernel
theorem dX7_finer_34 : decode cX7_finer 34 = .ok (.iload_n 1, 1) := by decide +kernel
theorem dX7_finer_35 : decode cX7_finer 35 = .ok (.invokevirtual 235, 3) := by decide +kernel
theorem dX7_finer_38 : decode cX7_finer 38 = .ok (.istore 4, 2) := by decide +kernel
theorem dX7_finer_40 : decode cX7_finer 40 = .ok (.aload_n 0, 1) := by decide +kernel
theorem dX7_finer_41 : decode cX7_finer 41 = .ok (.getfield 28, 3) := by decide +kernel
theorem dX7_finer_44 : decode cX7_finer 44 = .ok (.iload_n 2, 1) := by decide +kernel
theorem dX7_finer_45 : decode cX7_finer 45 = .ok (.iaload, 1) := by decide +kernel
theorem dX7_finer_46 : decode cX7_finer 46 = .ok (.istore 5, 2) := by decide +kernel
theorem dX7_finer_48 : decode cX7_finer 48 = .ok (.aload_n 0, 1) := by decide +kernel
theorem dX7_finer_49 : decode cX7_finer 49 = .ok (.getfield 28, 3) := by decide +kernel
theorem dX7_finer_52 : decode cX7_finer 52 = .ok (.iload_n 2, 1) := by decide +kernel
theorem dX7_finer_53 : decode cX7_finer 53 = .ok (.iconst 1, 1) := by decide +kernel
theorem dX7_finer_54 : decode cX7_finer 54 = .ok (.iastore, 1) := by decide +kernel
theorem dX7_finer_55 : decode cX7_finer 55 = .ok (.aload_n 0, 1) := by decide +kernel
theorem dX7_finer_56 : decode cX7_finer 56 = .ok (.iload_n 1, 1) := by decide +kernel
theorem dX7_finer_57 : decode cX7_finer 57 = .ok (.invokevirtual 235, 3) := by decide +kernel
theorem dX7_finer_60 : decode cX7_finer 60 = .ok (.istore 6, 2) := by decide +kernel
theorem dX7_finer_62 : decode cX7_finer 62 = .ok (.aload_n 0, 1) := by decide +kernel
theorem dX7_finer_63 : decode cX7_finer 63 = .ok (.getfield 28, 3) := by decide +kernel
theorem dX7_finer_66 : decode cX7_finer 66 = .ok (.iload_n 2, 1) := by decide +kernel
theorem dX7_finer_67 : decode cX7_finer 67 = .ok (.iload 5, 2) := by decide +kernel
theorem dX7_finer_69 : decode cX7_finer 69 = .ok (.iastore, 1) := by decide +kernel
theorem dX7_finer_70 : decode cX7_finer 70 = .ok (.iload 4, 2) := by decide +kernel
theorem dX7_finer_72 : decode cX7_finer 72 = .ok (.iload 6, 2) := by decide +kernel
theorem dX7_finer_74 : decode cX7_finer 74 = .ok (.isub, 1) := by decide +kernel
theorem dX7_finer_75 : decode cX7_finer 75 = .ok (.ireturn, 1) := by decide +kernel
theorem dX7_mark_0 : decode cX7_mark 0 = .ok (.iload_n 1, 1) := by decide +kernel
theorem dX7_mark_1 : decode cX7_mark 1 = .ok (.iconst 0, 1) := by decide +kernel
theorem dX7_mark_2 : decode cX7_mark 2 = .ok (.sipush 240, 3) := by decide +kernel
theorem dX7_mark_5 : decode cX7_mark 5 = .ok (.invokestatic 69, 3) := by decide +kernel
theorem dX7_mark_8 : decode cX7_mark 8 = .ok (.istore_n 2, 1) := by decide +kernel
theorem dX7_mark_9 : decode cX7_mark 9 = .ok (.iload_n 2, 1) := by decide +kernel
theorem dX7_mark_10 : decode cX7_mark 10 = .ok (.ifCond .eq 9, 3) := by decide +kernel
theorem dX7_mark_13 : decode cX7_mark 13 = .ok (.aload_n 0, 1) := by decide +kernel
theorem dX7_mark_14 : decode cX7_mark 14 = .ok (.iload_n 2, 1) := by decide +kernel
theorem dX7_mark_15 : decode cX7_mark 15 = .ok (.invokevirtual 241, 3) := by decide +kernel
theorem dX7_mark_18 : decode cX7_mark 18 = .ok (.ireturn, 1) := by decide +kernel
theorem dX7_mark_19 : decode cX7_mark 19 = .ok (.aload_n 0, 1) := by decide +kernel
theorem dX7_mark_20 : decode cX7_mark 20 = .ok (.iload_n 1, 1) := by decide +kernel
theorem dX7_mark_21 : decode cX7_mark 21 = .ok (.invokevirtual 235, 3) := by decide +kernel
theorem dX7_mark_24 : decode cX7_mark 24 = .ok (.istore_n 3, 1) := by decide +kernel
theorem dX7_mark_25 : decode cX7_mark 25 = .ok (.aload_n 0, 1) := by decide +kernel
theorem dX7_mark_26 : decode cX7_mark 26 = .ok (.iconst 2, 1) := by decide +kernel
theorem dX7_mark_27 : decode cX7_mark 27 = .ok (.iconst 1, 1) := by decide +kernel
theorem dX7_mark_28 : decode cX7_mark 28 = .ok (.invokevirtual 149, 3) := by decide +kernel
theorem dX7_mark_31 : decode cX7_mark 31 = .ok (.iconst 0, 1) := by decide +kernel
theorem dX7_mark_32 : decode cX7_mark 32 = .ok (.istore 4, 2) := by decide +kernel
theorem dX7_mark_34 : decode cX7_mark 34 = .ok (.iload 4, 2) := by decide +kernel
theorem dX7_mark_36 : decode cX7_mark 36 = .ok (.aload_n 0, 1) := by decide +kernel
theorem dX7_mark_37 : decode cX7_mark 37 = .ok (.getfield 65, 3) := by decide +kernel
theorem dX7_mark_40 : decode cX7_mark 40 = .ok (.if_icmp .ge 17, 3) := by decide +kernel
theorem dX7_mark_43 : decode cX7_mark 43 = .ok (.aload_n 0, 1) := by decide +kernel
theorem dX7_mark_44 : decode cX7_mark 44 = .ok (.getfield 28, 3) := by decide +kernel
theorem dX7_mark_47 : decode cX7_mark 47 = .ok (.iload 4, 2) := by decide +kernel
theorem dX7_mark_49 : decode cX7_mark 49 = .ok (.iconst 1, 1) := by decide +kernel
theorem dX7_mark_50 : decode cX7_mark 50 = .ok (.iastore, 1) := by decide +kernel
theorem dX7_mark_51 : decode cX7_mark 51 = .ok (.iinc 4 1, 3) := by decide +kernel
theorem dX7_mark_54 : decode cX7_mark 54 = .ok (.goto (-20), 3) := by decide +kernel
theorem dX7_mark_57 : decode cX7_mark 57 = .ok (.aload_n 0, 1) := by decide +kernel
theorem dX7_mark_58 : decode cX7_mark 58 = .ok (.iload_n 1, 1) := by decide +kernel
theorem dX7_mark_59 : decode cX7_mark 59 = .ok (.invokevirtual 235, 3) := by decide +kernel
theorem dX7_mark_62 : decode cX7_mark 62 = .ok (.istore 4, 2) := by decide +kernel
theorem dX7_mark_64 : decode cX7_mark 64 = .ok (.aload_n 0, 1) := by decide +kernel
theorem dX7_mark_65 : decode cX7_mark 65 = .ok (.iconst 2, 1) := by decide +kernel
theorem dX7_mark_66 : decode cX7_mark 66 = .ok (.iconst 0, 1) := by decide +kernel
theorem dX7_mark_67 : decode cX7_mark 67 = .ok (.invokevirtual 149, 3) := by decide +kernel
theorem dX7_mark_70 : decode cX7_mark 70 = .ok (.iload_n 3, 1) := by decide +kernel
theorem dX7_mark_71 : decode cX7_mark 71 = .ok (.iload 4, 2) := by decide +kernel
theorem dX7_mark_73 : decode cX7_mark 73 = .ok (.isub, 1) := by decide +kernel
theorem dX7_mark_74 : decode cX7_mark 74 = .ok (.ireturn, 1) := by decide +kernel
theorem dX7_most_0 : decode cX7_most 0 = .ok (.iload_n 1, 1) := by decide +kernel
theorem dX7_most_1 : decode cX7_most 1 = .ok (.iconst 0, 1) := by decide +kernel
theorem dX7_most_2 : decode cX7_most 2 = .ok (.sipush 240, 3) := by decide +kernel
theorem dX7_most_5 : decode cX7_most 5 = .ok (.invokestatic 69, 3) := by decide +kernel
theorem dX7_most_8 : decode cX7_most 8 = .ok (.istore_n 2, 1) := by decide +kernel
theorem dX7_most_9 : decode cX7_most 9 = .ok (.iload_n 2, 1) := by decide +kernel
theorem dX7_most_10 : decode cX7_most 10 = .ok (.ifCond .eq 9, 3) := by decide +kernel
theorem dX7_most_13 : decode cX7_most 13 = .ok (.aload_n 0, 1) := by decide +kernel
theorem dX7_most_14 : decode cX7_most 14 = .ok (.iload_n 2, 1) := by decide +kernel
theorem dX7_most_15 : decode cX7_most 15 = .ok (.invokevirtual 76, 3) := by decide +kernel
theorem dX7_most_18 : decode cX7_most 18 = .ok (.ireturn, 1) := by decide +kernel
theorem dX7_most_19 : decode cX7_most 19 = .ok (.aload_n 0, 1) := by decide +kernel
theorem dX7_most_20 : decode cX7_most 20 = .ok (.iload_n 1, 1) := by decide +kernel
theorem dX7_most_21 : decode cX7_most 21 = .ok (.invokevirtual 235, 3) := by decide +kernel
theorem dX7_most_24 : decode cX7_most 24 = .ok (.pop, 1) := by decide +kernel
theorem dX7_most_25 : decode cX7_most 25 = .ok (.aload_n 0, 1) := by decide +kernel
theorem dX7_most_26 : decode cX7_most 26 = .ok (.getfield 65, 3) := by decide +kernel
theorem dX7_most_29 : decode cX7_most 29 = .ok (.ifCond .ne 8, 3) := by decide +kernel
theorem dX7_most_32 : decode cX7_most 32 = .ok (.bipush (-9), 2) := by decide +kernel
theorem dX7_most_34 : decode cX7_most 34 = .ok (.goto 4, 3) := by decide +kernel
theorem dX7_most_37 : decode cX7_most 37 = .ok (.iconst 0, 1) := by decide +kernel
theorem dX7_most_38 : decode cX7_most 38 = .ok (.istore_n 3, 1) := by decide +kernel
theorem dX7_most_39 : decode cX7_most 39 = .ok (.iconst 1, 1) := by decide +kernel
theorem dX7_most_40 : decode cX7_most 40 = .ok (.istore 4, 2) := by decide +kernel
theorem dX7_most_42 : decode cX7_most 42 = .ok (.iload 4, 2) := by decide +kernel
theorem dX7_most_44 : decode cX7_most 44 = .ok (.aload_n 0, 1) := by decide +kernel
theorem dX7_most_45 : decode cX7_most 45 = .ok (.getfield 65, 3) := by decide +kernel
theorem dX7_most_48 : decode cX7_most 48 = .ok (.if_icmp .ge 30, 3) := by decide +kernel
theorem dX7_most_51 : decode cX7_most 51 = .ok (.aload_n 0, 1) := by decide +kernel
theorem dX7_most_52 : decode cX7_most 52 = .ok (.iload 4, 2) := by decide +kernel
theorem dX7_most_54 : decode cX7_most 54 = .ok (.invokevirtual 244, 3) := by decide +kernel
theorem dX7_most_57 : decode cX7_most 57 = .ok (.aload_n 0, 1) := by decide +kernel
theorem dX7_most_58 : decode cX7_most 58 = .ok (.iload_n 3, 1) := by decide +kernel
theorem dX7_most_59 : decode cX7_most 59 = .ok (.invokevirtual 244, 3) := by decide +kernel
theorem dX7_most_62 : decode cX7_most 62 = .ok (.if_icmp .le 8, 3) := by decide +kernel
theorem dX7_most_65 : decode cX7_most 65 = .ok (.iload 4, 2) := by decide +kernel
theorem dX7_most_67 : decode cX7_most 67 = .ok (.goto 4, 3) := by decide +kernel
theorem dX7_most_70 : decode cX7_most 70 = .ok (.iload_n 3, 1) := by decide +kernel
theorem dX7_most_71 : decode cX7_most 71 = .ok (.istore_n 3, 1) := by decide +kernel
theorem dX7_most_72 : decode cX7_most 72 = .ok (.iinc 4 1, 3) := by decide +kernel
theorem dX7_most_75 : decode cX7_most 75 = .ok (.goto (-33), 3) := by decide +kernel
theorem dX7_most_78 : decode cX7_most 78 = .ok (.iload_n 3, 1) := by decide +kernel
theorem dX7_most_79 : decode cX7_most 79 = .ok (.ireturn, 1) := by decide +kernel
theorem dX7_between_0 : decode cX7_between 0 = .ok (.iload_n 1, 1) := by decide +kernel
theorem dX7_between_1 : decode cX7_between 1 = .ok (.iconst 0, 1) := by decide +kernel
theorem dX7_between_2 : decode cX7_between 2 = .ok (.sipush 240, 3) := by decide +kernel
theorem dX7_between_5 : decode cX7_between 5 = .ok (.invokestatic 69, 3) := by decide +kernel
theorem dX7_between_8 : decode cX7_between 8 = .ok (.istore_n 2, 1) := by decide +kernel
theorem dX7_between_9 : decode cX7_between 9 = .ok (.iload_n 2, 1) := by decide +kernel
theorem dX7_between_10 : decode cX7_between 10 = .ok (.ifCond .eq 11, 3) := by decide +kernel
theorem dX7_between_13 : decode cX7_between 13 = .ok (.aload_n 0, 1) := by decide +kernel
theorem dX7_between_14 : decode cX7_between 14 = .ok (.iload_n 2, 1) := by decide +kernel
theorem dX7_between_15 : decode cX7_between 15 = .ok (.invokevirtual 76, 3) := by decide +kernel
theorem dX7_between_18 : decode cX7_between 18 = .ok (.goto 12, 3) := by decide +kernel
theorem dX7_between_21 : decode cX7_between 21 = .ok (.bipush 20, 2) := by decide +kernel
theorem dX7_between_23 : decode cX7_between 23 = .ok (.aload_n 0, 1) := by decide +kernel
theorem dX7_between_24 : decode cX7_between 24 = .ok (.iconst 1, 1) := by decide +kernel
theorem dX7_between_25 : decode cX7_between 25 = .ok (.iload_n 1, 1) := by decide +kernel
theorem dX7_between_26 : decode cX7_between 26 = .ok (.invokevirtual 256, 3) := by decide +kernel
theorem dX7_between_29 : decode cX7_between 29 = .ok (.iadd, 1) := by decide +kernel
theorem dX7_between_30 : decode cX7_between 30 = .ok (.ireturn, 1) := by decide +kernel
theorem dX7_leave_0 : decode cX7_leave 0 = .ok (.iload_n 1, 1) := by decide +kernel
theorem dX7_leave_1 : decode cX7_leave 1 = .ok (.iconst 0, 1) := by decide +kernel
theorem dX7_leave_2 : decode cX7_leave 2 = .ok (.sipush 240, 3) := by decide +kernel
theorem dX7_leave_5 : decode cX7_leave 5 = .ok (.invokestatic 69, 3) := by decide +kernel
theorem dX7_leave_8 : decode cX7_leave 8 = .ok (.istore_n 2, 1) := by decide +kernel
theorem dX7_leave_9 : decode cX7_leave 9 = .ok (.iload_n 2, 1) := by decide +kernel
theorem dX7_leave_10 : decode cX7_leave 10 = .ok (.ifCond .eq 9, 3) := by decide +kernel
theorem dX7_leave_13 : decode cX7_leave 13 = .ok (.aload_n 0, 1) := by decide +kernel
theorem dX7_leave_14 : decode cX7_leave 14 = .ok (.iload_n 2, 1) := by decide +kernel
theorem dX7_leave_15 : decode cX7_leave 15 = .ok (.invokevirtual 241, 3) := by decide +kernel
theorem dX7_leave_18 : decode cX7_leave 18 = .ok (.ireturn, 1) := by decide +kernel
theorem dX7_leave_19 : decode cX7_leave 19 = .ok (.aload_n 0, 1) := by decide +kernel
theorem dX7_leave_20 : decode cX7_leave 20 = .ok (.iload_n 1, 1) := by decide +kernel
theorem dX7_leave_21 : decode cX7_leave 21 = .ok (.invokevirtual 235, 3) := by decide +kernel
theorem dX7_leave_24 : decode cX7_leave 24 = .ok (.istore_n 3, 1) := by decide +kernel
theorem dX7_leave_25 : decode cX7_leave 25 = .ok (.aload_n 0, 1) := by decide +kernel
theorem dX7_leave_26 : decode cX7_leave 26 = .ok (.iconst 5, 1) := by decide +kernel
theorem dX7_leave_27 : decode cX7_leave 27 = .ok (.iload_n 1, 1) := by decide +kernel
theorem dX7_leave_28 : decode cX7_leave 28 = .ok (.invokevirtual 250, 3) := by decide +kernel
theorem dX7_leave_31 : decode cX7_leave 31 = .ok (.iload_n 3, 1) := by decide +kernel
theorem dX7_leave_32 : decode cX7_leave 32 = .ok (.isub, 1) := by decide +kernel
theorem dX7_leave_33 : decode cX7_leave 33 = .ok (.ireturn, 1) := by decide +kernel
theorem dX7_isOff_0 : decode cX7_isOff 0 = .ok (.iload_n 1, 1) := by decide +kernel
theorem dX7_isOff_1 : decode cX7_isOff 1 = .ok (.aload_n 0, 1) := by decide +kernel
theorem dX7_isOff_2 : decode cX7_isOff 2 = .ok (.getfield 13, 3) := by decide +kernel
theorem dX7_isOff_5 : decode cX7_isOff 5 = .ok (.iconst 1, 1) := by decide +kernel
theorem dX7_isOff_6 : decode cX7_isOff 6 = .ok (.iaload, 1) := by decide +kernel
theorem dX7_isOff_7 : decode cX7_isOff 7 = .ok (.isub, 1) := by decide +kernel
theorem dX7_isOff_8 : decode cX7_isOff 8 = .ok (.invokestatic 176, 3) := by decide +kernel
theorem dX7_isOff_11 : decode cX7_isOff 11 = .ok (.aload_n 0, 1) := by decide +kernel
theorem dX7_isOff_12 : decode cX7_isOff 12 = .ok (.getfield 13, 3) := by decide +kernel
theorem dX7_isOff_15 : decode cX7_isOff 15 = .ok (.iconst 4, 1) := by decide +kernel
theorem dX7_isOff_16 : decode cX7_isOff 16 = .ok (.iaload, 1) := by decide +kernel
theorem dX7_isOff_17 : decode cX7_isOff 17 = .ok (.if_icmp .gt 23, 3) := by decide +kernel
theorem dX7_isOff_20 : decode cX7_isOff 20 = .ok (.iload_n 1, 1) := by decide +kernel
theorem dX7_isOff_21 : decode cX7_isOff 21 = .ok (.aload_n 0, 1) := by decide +kernel
theorem dX7_isOff_22 : decode cX7_isOff 22 = .ok (.getfield 13, 3) := by decide +kernel
theorem dX7_isOff_25 : decode cX7_isOff 25 = .ok (.iconst 2, 1) := by decide +kernel
theorem dX7_isOff_26 : decode cX7_isOff 26 = .ok (.iaload, 1) := by decide +kernel
theorem dX7_isOff_27 : decode cX7_isOff 27 = .ok (.isub, 1) := by decide +kernel
theorem dX7_isOff_28 : decode cX7_isOff 28 = .ok (.invokestatic 176, 3) := by decide +kernel
theorem dX7_isOff_31 : decode cX7_isOff 31 = .ok (.aload_n 0, 1) := by decide +kernel
theorem dX7_isOff_32 : decode cX7_isOff 32 = .ok (.getfield 13, 3) := by decide +kernel
theorem dX7_isOff_35 : decode cX7_isOff 35 = .ok (.iconst 4, 1) := by decide +kernel
theorem dX7_isOff_36 : decode cX7_isOff 36 = .ok (.iaload, 1) := by decide +kernel
theorem dX7_isOff_37 : decode cX7_isOff 37 = .ok (.if_icmp .le 7, 3) := by decide +kernel
theorem dX7_isOff_40 : decode cX7_isOff 40 = .ok (.iconst 1, 1) := by decide +kernel
theorem dX7_isOff_41 : decode cX7_isOff 41 = .ok (.goto 4, 3) := by decide +kernel
theorem dX7_isOff_44 : decode cX7_isOff 44 = .ok (.iconst 0, 1) := by decide +kernel
theorem dX7_isOff_45 : decode cX7_isOff 45 = .ok (.ireturn, 1) := by decide +kernel
theorem dX7_holdsFrom_0 : decode cX7_holdsFrom 0 = .ok (.aload_n 0, 1) := by decide +kernel
theorem dX7_holdsFrom_1 : decode cX7_holdsFrom 1 = .ok (.getfield 135, 3) := by decide +kernel
theorem dX7_holdsFrom_4 : decode cX7_holdsFrom 4 = .ok (.istore_n 2, 1) := by decide +kernel
theorem dX7_holdsFrom_5 : decode cX7_holdsFrom 5 = .ok (.aload_n 0, 1) := by decide +kernel
theorem dX7_holdsFrom_6 : decode cX7_holdsFrom 6 = .ok (.iconst 5, 1) := by decide +kernel
theorem dX7_holdsFrom_7 : decode cX7_holdsFrom 7 = .ok (.putfield 135, 3) := by decide +kernel
theorem dX7_holdsFrom_10 : decode cX7_holdsFrom 10 = .ok (.aload_n 0, 1) := by decide +kernel
theorem dX7_holdsFrom_11 : decode cX7_holdsFrom 11 = .ok (.iconst 0, 1) := by decide +kernel
theorem dX7_holdsFrom_12 : decode cX7_holdsFrom 12 = .ok (.iload_n 1, 1) := by decide +kernel
theorem dX7_holdsFrom_13 : decode cX7_holdsFrom 13 = .ok (.sipush 240, 3) := by decide +kernel
theorem dX7_holdsFrom_16 : decode cX7_holdsFrom 16 = .ok (.invokevirtual 247, 3) := by decide +kernel
theorem dX7_holdsFrom_19 : decode cX7_holdsFrom 19 = .ok (.pop, 1) := by decide +kernel
theorem dX7_holdsFrom_20 : decode cX7_holdsFrom 20 = .ok (.aload_n 0, 1) := by decide +kernel
theorem dX7_holdsFrom_21 : decode cX7_holdsFrom 21 = .ok (.iload_n 2, 1) := by decide +kernel
theorem dX7_holdsFrom_22 : decode cX7_holdsFrom 22 = .ok (.putfield 135, 3) := by decide +kernel
theorem dX7_holdsFrom_25 : decode cX7_holdsFrom 25 = .ok (.iconst 0, 1) := by decide +kernel
theorem dX7_holdsFrom_26 : decode cX7_holdsFrom 26 = .ok (.istore_n 3, 1) := by decide +kernel
theorem dX7_holdsFrom_27 : decode cX7_holdsFrom 27 = .ok (.iload_n 3, 1) := by decide +kernel
theorem dX7_holdsFrom_28 : decode cX7_holdsFrom 28 = .ok (.sipush 240, 3) := by decide +kernel
theorem dX7_holdsFrom_31 : decode cX7_holdsFrom 31 = .ok (.if_icmp .ge 24, 3) := by decide +kernel
theorem dX7_holdsFrom_34 : decode cX7_holdsFrom 34 = .ok (.aload_n 0, 1) := by decide +kernel
theorem dX7_holdsFrom_35 : decode cX7_holdsFrom 35 = .ok (.aload_n 0, 1) := by decide +kernel
theorem dX7_holdsFrom_36 : decode cX7_holdsFrom 36 = .ok (.getfield 55, 3) := by decide +kernel
theorem dX7_holdsFrom_39 : decode cX7_holdsFrom 39 = .ok (.iload_n 3, 1) := by decide +kernel
theorem dX7_holdsFrom_40 : decode cX7_holdsFrom 40 = .ok (.iaload, 1) := by decide +kernel
theorem dX7_holdsFrom_41 : decode cX7_holdsFrom 41 = .ok (.invokevirtual 265, 3) := by decide +kernel
theorem dX7_holdsFrom_44 : decode cX7_holdsFrom 44 = .ok (.ifCond .eq 5, 3) := by decide +kernel
theorem dX7_holdsFrom_47 : decode cX7_holdsFrom 47 = .ok (.iload_n 3, 1) := by decide +kernel
theorem dX7_holdsFrom_48 : decode cX7_holdsFrom 48 = .ok (.ireturn, 1) := by decide +kernel
theorem dX7_holdsFrom_49 : decode cX7_holdsFrom 49 = .ok (.iinc 3 1, 3) := by decide +kernel
theorem dX7_holdsFrom_52 : decode cX7_holdsFrom 52 = .ok (.goto (-25), 3) := by decide +kernel
theorem dX7_holdsFrom_55 : decode cX7_holdsFrom 55 = .ok (.bipush (-9), 2) := by decide +kernel
theorem dX7_holdsFrom_57 : decode cX7_holdsFrom 57 = .ok (.ireturn, 1) := by decide +kernel
theorem dX7_holds_0 : decode cX7_holds 0 = .ok (.iload_n 1, 1) := by decide +kernel
theorem dX7_holds_1 : decode cX7_holds 1 = .ok (.bipush (-99), 2) := by decide +kernel
theorem dX7_holds_3 : decode cX7_holds 3 = .ok (.bipush 99, 2) := by decide +kernel
theorem dX7_holds_5 : decode cX7_holds 5 = .ok (.invokestatic 69, 3) := by decide +kernel
theorem dX7_holds_8 : decode cX7_holds 8 = .ok (.istore_n 2, 1) := by decide +kernel
theorem dX7_holds_9 : decode cX7_holds 9 = .ok (.iload_n 2, 1) := by decide +kernel
theorem dX7_holds_10 : decode cX7_holds 10 = .ok (.ifCond .eq 11, 3) := by decide +kernel
theorem dX7_holds_13 : decode cX7_holds 13 = .ok (.aload_n 0, 1) := by decide +kernel
theorem dX7_holds_14 : decode cX7_holds 14 = .ok (.iload_n 2, 1) := by decide +kernel
theorem dX7_holds_15 : decode cX7_holds 15 = .ok (.invokevirtual 76, 3) := by decide +kernel
theorem dX7_holds_18 : decode cX7_holds 18 = .ok (.goto 8, 3) := by decide +kernel
theorem dX7_holds_21 : decode cX7_holds 21 = .ok (.aload_n 0, 1) := by decide +kernel
theorem dX7_holds_22 : decode cX7_holds 22 = .ok (.iload_n 1, 1) := by decide +kernel
theorem dX7_holds_23 : decode cX7_holds 23 = .ok (.invokevirtual 268, 3) := by decide +kernel
theorem dX7_holds_26 : decode cX7_holds 26 = .ok (.ireturn, 1) := by decide +kernel
theorem dX7_setAt_0 : decode cX7_setAt 0 = .ok (.iconst 0, 1) := by decide +kernel
theorem dX7_setAt_1 : decode cX7_setAt 1 = .ok (.istore_n 1, 1) := by decide +kernel
theorem dX7_setAt_2 : decode cX7_setAt 2 = .ok (.iconst (-1), 1) := by decide +kernel
theorem dX7_setAt_3 : decode cX7_setAt 3 = .ok (.istore_n 2, 1) := by decide +kernel
theorem dX7_setAt_4 : decode cX7_setAt 4 = .ok (.bipush (-20), 2) := by decide +kernel
theorem dX7_setAt_6 : decode cX7_setAt 6 = .ok (.istore_n 3, 1) := by decide +kernel
theorem dX7_setAt_7 : decode cX7_setAt 7 = .ok (.iload_n 3, 1) := by decide +kernel
theorem dX7_setAt_8 : decode cX7_setAt 8 = .ok (.bipush 20, 2) := by decide +kernel
theorem dX7_setAt_10 : decode cX7_setAt 10 = .ok (.if_icmp .gt 45, 3) := by decide +kernel
theorem dX7_setAt_13 : decode cX7_setAt 13 = .ok (.aload_n 0, 1) := by decide +kernel
theorem dX7_setAt_14 : decode cX7_setAt 14 = .ok (.iload_n 3, 1) := by decide +kernel
theorem dX7_setAt_15 : decode cX7_setAt 15 = .ok (.invokevirtual 268, 3) := by decide +kernel
theorem dX7_setAt_18 : decode cX7_setAt 18 = .ok (.istore 4, 2) := by decide +kernel
theorem dX7_setAt_20 : decode cX7_setAt 20 = .ok (.iload 4, 2) := by decide +kernel
theorem dX7_setAt_22 : decode cX7_setAt 22 = .ok (.ifCond .ge 9, 3) := by decide +kernel
theorem dX7_setAt_25 : decode cX7_setAt 25 = .ok (.sipush 240, 3) := by decide +kernel
theorem dX7_setAt_28 : decode cX7_setAt 28 = .ok (.goto 5, 3) := by decide +kernel
theorem dX7_setAt_31 : decode cX7_setAt 31 = .ok (.iload 4, 2) := by decide +kernel
theorem dX7_setAt_33 : decode cX7_setAt 33 = .ok (.istore 4, 2) := by decide +kernel
theorem dX7_setAt_35 : decode cX7_setAt 35 = .ok (.iload 4, 2) := by decide +kernel
theorem dX7_setAt_37 : decode cX7_setAt 37 = .ok (.iload_n 2, 1) := by decide +kernel
theorem dX7_setAt_38 : decode cX7_setAt 38 = .ok (.if_icmp .gt 6, 3) := by decide +kernel
theorem dX7_setAt_41 : decode cX7_setAt 41 = .ok (.goto 8, 3) := by decide +kernel
theorem dX7_setAt_44 : decode cX7_setAt 44 = .ok (.iload_n 3, 1) := by decide +kernel
theorem dX7_setAt_45 : decode cX7_setAt 45 = .ok (.istore_n 1, 1) := by decide +kernel
theorem dX7_setAt_46 : decode cX7_setAt 46 = .ok (.iload 4, 2) := by decide +kernel
theorem dX7_setAt_48 : decode cX7_setAt 48 = .ok (.istore_n 2, 1) := by decide +kernel
theorem dX7_setAt_49 : decode cX7_setAt 49 = .ok (.iinc 3 1, 3) := by decide +kernel
theorem dX7_setAt_52 : decode cX7_setAt 52 = .ok (.goto (-45), 3) := by decide +kernel
theorem dX7_setAt_55 : decode cX7_setAt 55 = .ok (.iload_n 1, 1) := by decide +kernel
theorem dX7_setAt_56 : decode cX7_setAt 56 = .ok (.bipush 20, 2) := by decide +kernel
theorem dX7_setAt_58 : decode cX7_setAt 58 = .ok (.iadd, 1) := by decide +kernel
theorem dX7_setAt_59 : decode cX7_setAt 59 = .ok (.ireturn, 1) := by decide +kernel
theorem dX7_isStill_0 : decode cX7_isStill 0 = .ok (.iconst 0, 1) := by decide +kernel
theorem dX7_isStill_1 : decode cX7_isStill 1 = .ok (.istore_n 2, 1) := by decide +kernel
theorem dX7_isStill_2 : decode cX7_isStill 2 = .ok (.iload_n 2, 1) := by decide +kernel
theorem dX7_isStill_3 : decode cX7_isStill 3 = .ok (.bipush 10, 2) := by decide +kernel
theorem dX7_isStill_5 : decode cX7_isStill 5 = .ok (.if_icmp .ge 21, 3) := by decide +kernel
theorem dX7_isStill_8 : decode cX7_isStill 8 = .ok (.aload_n 0, 1) := by decide +kernel
theorem dX7_isStill_9 : decode cX7_isStill 9 = .ok (.iload_n 1, 1) := by decide +kernel
theorem dX7_isStill_10 : decode cX7_isStill 10 = .ok (.iload_n 2, 1) := by decide +kernel
theorem dX7_isStill_11 : decode cX7_isStill 11 = .ok (.iadd, 1) := by decide +kernel
theorem dX7_isStill_12 : decode cX7_isStill 12 = .ok (.invokevirtual 188, 3) := by decide +kernel
theorem dX7_isStill_15 : decode cX7_isStill 15 = .ok (.ifCond .eq 5, 3) := by decide +kernel
