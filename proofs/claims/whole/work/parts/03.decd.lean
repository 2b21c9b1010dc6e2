theorem dX7_readsAll_59 : decode cX7_readsAll 59 = .ok (.iload_n 2, 1) := by decide +kernel
theorem dX7_readsAll_60 : decode cX7_readsAll 60 = .ok (.iconst 2, 1) := by decide +kernel
theorem dX7_readsAll_61 : decode cX7_readsAll 61 = .ok (.invokevirtual 105, 3) := by decide +kernel
theorem dX7_readsAll_64 : decode cX7_readsAll 64 = .ok (.ireturn, 1) := by decide +kernel
theorem dX7_readsAll_65 : decode cX7_readsAll 65 = .ok (.aload_n 0, 1) := by decide +kernel
theorem dX7_readsAll_66 : decode cX7_readsAll 66 = .ok (.iload_n 2, 1) := by decide +kernel
theorem dX7_readsAll_67 : decode cX7_readsAll 67 = .ok (.iconst 1, 1) := by decide +kernel
theorem dX7_readsAll_68 : decode cX7_readsAll 68 = .ok (.invokevirtual 91, 3) := by decide +kernel
theorem dX7_readsAll_71 : decode cX7_readsAll 71 = .ok (.ifCond .eq 18, 3) := by decide +kernel
theorem dX7_readsAll_74 : decode cX7_readsAll 74 = .ok (.aload_n 0, 1) := by decide +kernel
theorem dX7_readsAll_75 : decode cX7_readsAll 75 = .ok (.iload_n 2, 1) := by decide +kernel
theorem dX7_readsAll_76 : decode cX7_readsAll 76 = .ok (.iconst 1, 1) := by decide +kernel
theorem dX7_readsAll_77 : decode cX7_readsAll 77 = .ok (.iadd, 1) := by decide +kernel
theorem dX7_readsAll_78 : decode cX7_readsAll 78 = .ok (.iconst 2, 1) := by decide +kernel
theorem dX7_readsAll_79 : decode cX7_readsAll 79 = .ok (.invokevirtual 105, 3) := by decide +kernel
theorem dX7_readsAll_82 : decode cX7_readsAll 82 = .ok (.ifCond .eq 7, 3) := by decide +kernel
theorem dX7_readsAll_85 : decode cX7_readsAll 85 = .ok (.iconst 1, 1) := by decide +kernel
theorem dX7_readsAll_86 : decode cX7_readsAll 86 = .ok (.goto 4, 3) := by decide +kernel
theorem dX7_readsAll_89 : decode cX7_readsAll 89 = .ok (.iconst 0, 1) := by decide +kernel
theorem dX7_readsAll_90 : decode cX7_readsAll 90 = .ok (.ireturn, 1) := by decide +kernel
theorem dX7_readsAll_91 : decode cX7_readsAll 91 = .ok (.aload_n 0, 1) := by decide +kernel
theorem dX7_readsAll_92 : decode cX7_readsAll 92 = .ok (.iload_n 2, 1) := by decide +kernel
theorem dX7_readsAll_93 : decode cX7_readsAll 93 = .ok (.aload_n 0, 1) := by decide +kernel
theorem dX7_readsAll_94 : decode cX7_readsAll 94 = .ok (.invokevirtual 83, 3) := by decide +kernel
theorem dX7_readsAll_97 : decode cX7_readsAll 97 = .ok (.invokestatic 108, 3) := by decide +kernel
theorem dX7_readsAll_100 : decode cX7_readsAll 100 = .ok (.invokevirtual 98, 3) := by decide +kernel
theorem dX7_readsAll_103 : decode cX7_readsAll 103 = .ok (.ifCond .eq 18, 3) := by decide +kernel
theorem dX7_readsAll_106 : decode cX7_readsAll 106 = .ok (.aload_n 0, 1) := by decide +kernel
theorem dX7_readsAll_107 : decode cX7_readsAll 107 = .ok (.iload_n 2, 1) := by decide +kernel
theorem dX7_readsAll_108 : decode cX7_readsAll 108 = .ok (.iconst 1, 1) := by decide +kernel
theorem dX7_readsAll_109 : decode cX7_readsAll 109 = .ok (.iadd, 1) := by decide +kernel
theorem dX7_readsAll_110 : decode cX7_readsAll 110 = .ok (.iconst 1, 1) := by decide +kernel
theorem dX7_readsAll_111 : decode cX7_readsAll 111 = .ok (.invokevirtual 105, 3) := by decide +kernel
theorem dX7_readsAll_114 : decode cX7_readsAll 114 = .ok (.ifCond .eq 7, 3) := by decide +kernel
theorem dX7_readsAll_117 : decode cX7_readsAll 117 = .ok (.iconst 1, 1) := by decide +kernel
theorem dX7_readsAll_118 : decode cX7_readsAll 118 = .ok (.goto 4, 3) := by decide +kernel
theorem dX7_readsAll_121 : decode cX7_readsAll 121 = .ok (.iconst 0, 1) := by decide +kernel
theorem dX7_readsAll_122 : decode cX7_readsAll 122 = .ok (.ireturn, 1) := by decide +kernel
theorem dX7_readsAll_123 : decode cX7_readsAll 123 = .ok (.aload_n 0, 1) := by decide +kernel
theorem dX7_readsAll_124 : decode cX7_readsAll 124 = .ok (.iload_n 2, 1) := by decide +kernel
theorem dX7_readsAll_125 : decode cX7_readsAll 125 = .ok (.aload_n 0, 1) := by decide +kernel
theorem dX7_readsAll_126 : decode cX7_readsAll 126 = .ok (.invokevirtual 83, 3) := by decide +kernel
theorem dX7_readsAll_129 : decode cX7_readsAll 129 = .ok (.invokestatic 111, 3) := by decide +kernel
theorem dX7_readsAll_132 : decode cX7_readsAll 132 = .ok (.invokevirtual 98, 3) := by decide +kernel
theorem dX7_readsAll_135 : decode cX7_readsAll 135 = .ok (.ifCond .eq 29, 3) := by decide +kernel
theorem dX7_readsAll_138 : decode cX7_readsAll 138 = .ok (.aload_n 0, 1) := by decide +kernel
theorem dX7_readsAll_139 : decode cX7_readsAll 139 = .ok (.iload_n 2, 1) := by decide +kernel
theorem dX7_readsAll_140 : decode cX7_readsAll 140 = .ok (.iconst 1, 1) := by decide +kernel
theorem dX7_readsAll_141 : decode cX7_readsAll 141 = .ok (.iadd, 1) := by decide +kernel
theorem dX7_readsAll_142 : decode cX7_readsAll 142 = .ok (.iconst 2, 1) := by decide +kernel
theorem dX7_readsAll_143 : decode cX7_readsAll 143 = .ok (.invokevirtual 91, 3) := by decide +kernel
theorem dX7_readsAll_146 : decode cX7_readsAll 146 = .ok (.ifCond .eq 18, 3) := by decide +kernel
theorem dX7_readsAll_149 : decode cX7_readsAll 149 = .ok (.aload_n 0, 1) := by decide +kernel
theorem dX7_readsAll_150 : decode cX7_readsAll 150 = .ok (.iload_n 2, 1) := by decide +kernel
theorem dX7_readsAll_151 : decode cX7_readsAll 151 = .ok (.iconst 2, 1) := by decide +kernel
theorem dX7_readsAll_152 : decode cX7_readsAll 152 = .ok (.iadd, 1) := by decide +kernel
theorem dX7_readsAll_153 : decode cX7_readsAll 153 = .ok (.iconst 1, 1) := by decide +kernel
theorem dX7_readsAll_154 : decode cX7_readsAll 154 = .ok (.invokevirtual 91, 3) := by decide +kernel
theorem dX7_readsAll_157 : decode cX7_readsAll 157 = .ok (.ifCond .eq 7, 3) := by decide +kernel
theorem dX7_readsAll_160 : decode cX7_readsAll 160 = .ok (.iconst 1, 1) := by decide +kernel
theorem dX7_readsAll_161 : decode cX7_readsAll 161 = .ok (.goto 4, 3) := by decide +kernel
theorem dX7_readsAll_164 : decode cX7_readsAll 164 = .ok (.iconst 0, 1) := by decide +kernel
theorem dX7_readsAll_165 : decode cX7_readsAll 165 = .ok (.ireturn, 1) := by decide +kernel
theorem dX7_readsAll_166 : decode cX7_readsAll 166 = .ok (.aload_n 0, 1) := by decide +kernel
theorem dX7_readsAll_167 : decode cX7_readsAll 167 = .ok (.iload_n 2, 1) := by decide +kernel
theorem dX7_readsAll_168 : decode cX7_readsAll 168 = .ok (.iconst 2, 1) := by decide +kernel
theorem dX7_readsAll_169 : decode cX7_readsAll 169 = .ok (.invokevirtual 91, 3) := by decide +kernel
theorem dX7_readsAll_172 : decode cX7_readsAll 172 = .ok (.ireturn, 1) := by decide +kernel
theorem dX7_statement_0 : decode cX7_statement 0 = .ok (.aload_n 0, 1) := by decide +kernel
theorem dX7_statement_1 : decode cX7_statement 1 = .ok (.invokevirtual 83, 3) := by decide +kernel
theorem dX7_statement_4 : decode cX7_statement 4 = .ok (.istore_n 1, 1) := by decide +kernel
theorem dX7_statement_5 : decode cX7_statement 5 = .ok (.iload_n 1, 1) := by decide +kernel
theorem dX7_statement_6 : decode cX7_statement 6 = .ok (.bipush 112, 2) := by decide +kernel
theorem dX7_statement_8 : decode cX7_statement 8 = .ok (.if_icmp .eq 35, 3) := by decide +kernel
theorem dX7_statement_11 : decode cX7_statement 11 = .ok (.iload_n 1, 1) := by decide +kernel
theorem dX7_statement_12 : decode cX7_statement 12 = .ok (.bipush 119, 2) := by decide +kernel
theorem dX7_statement_14 : decode cX7_statement 14 = .ok (.if_icmp .eq 29, 3) := by decide +kernel
theorem dX7_statement_17 : decode cX7_statement 17 = .ok (.iload_n 1, 1) := by decide +kernel
theorem dX7_statement_18 : decode cX7_statement 18 = .ok (.bipush 115, 2) := by decide +kernel
theorem dX7_statement_20 : decode cX7_statement 20 = .ok (.if_icmp .eq 23, 3) := by decide +kernel
theorem dX7_statement_23 : decode cX7_statement 23 = .ok (.iload_n 1, 1) := by decide +kernel
theorem dX7_statement_24 : decode cX7_statement 24 = .ok (.bipush 100, 2) := by decide +kernel
theorem dX7_statement_26 : decode cX7_statement 26 = .ok (.if_icmp .eq 17, 3) := by decide +kernel
theorem dX7_statement_29 : decode cX7_statement 29 = .ok (.iload_n 1, 1) := by decide +kernel
theorem dX7_statement_30 : decode cX7_statement 30 = .ok (.bipush 114, 2) := by decide +kernel
theorem dX7_statement_32 : decode cX7_statement 32 = .ok (.if_icmp .eq 11, 3) := by decide +kernel
theorem dX7_statement_35 : decode cX7_statement 35 = .ok (.iload_n 1, 1) := by decide +kernel
theorem dX7_statement_36 : decode cX7_statement 36 = .ok (.bipush 110, 2) := by decide +kernel
theorem dX7_statement_38 : decode cX7_statement 38 = .ok (.if_icmp .eq 5, 3) := by decide +kernel
theorem dX7_statement_41 : decode cX7_statement 41 = .ok (.iconst 0, 1) := by decide +kernel
theorem dX7_statement_42 : decode cX7_statement 42 = .ok (.ireturn, 1) := by decide +kernel
theorem dX7_statement_43 : decode cX7_statement 43 = .ok (.aload_n 0, 1) := by decide +kernel
theorem dX7_statement_44 : decode cX7_statement 44 = .ok (.getfield 37, 3) := by decide +kernel
theorem dX7_statement_47 : decode cX7_statement 47 = .ok (.aload_n 0, 1) := by decide +kernel
theorem dX7_statement_48 : decode cX7_statement 48 = .ok (.getfield 114, 3) := by decide +kernel
theorem dX7_statement_51 : decode cX7_statement 51 = .ok (.iload_n 1, 1) := by decide +kernel
theorem dX7_statement_52 : decode cX7_statement 52 = .ok (.iastore, 1) := by decide +kernel
theorem dX7_statement_53 : decode cX7_statement 53 = .ok (.aload_n 0, 1) := by decide +kernel
theorem dX7_statement_54 : decode cX7_statement 54 = .ok (.getfield 40, 3) := by decide +kernel
theorem dX7_statement_57 : decode cX7_statement 57 = .ok (.aload_n 0, 1) := by decide +kernel
theorem dX7_statement_58 : decode cX7_statement 58 = .ok (.getfield 114, 3) := by decide +kernel
theorem dX7_statement_61 : decode cX7_statement 61 = .ok (.aload_n 0, 1) := by decide +kernel
theorem dX7_statement_62 : decode cX7_statement 62 = .ok (.getfield 80, 3) := by decide +kernel
theorem dX7_statement_65 : decode cX7_statement 65 = .ok (.iastore, 1) := by decide +kernel
theorem dX7_statement_66 : decode cX7_statement 66 = .ok (.aload_n 0, 1) := by decide +kernel
theorem dX7_statement_67 : decode cX7_statement 67 = .ok (.dup, 1) := by decide +kernel
theorem dX7_statement_68 : decode cX7_statement 68 = .ok (.getfield 80, 3) := by decide +kernel
theorem dX7_statement_71 : decode cX7_statement 71 = .ok (.iconst 1, 1) := by decide +kernel
theorem dX7_statement_72 : decode cX7_statement 72 = .ok (.iadd, 1) := by decide +kernel
theorem dX7_statement_73 : decode cX7_statement 73 = .ok (.putfield 80, 3) := by decide +kernel
theorem dX7_statement_76 : decode cX7_statement 76 = .ok (.aload_n 0, 1) := by decide +kernel
theorem dX7_statement_77 : decode cX7_statement 77 = .ok (.iload_n 1, 1) := by decide +kernel
theorem dX7_statement_78 : decode cX7_statement 78 = .ok (.bipush 6, 2) := by decide +kernel
theorem dX7_statement_80 : decode cX7_statement 80 = .ok (.aload_n 0, 1) := by decide +kernel
theorem dX7_statement_81 : decode cX7_statement 81 = .ok (.getfield 114, 3) := by decide +kernel
theorem dX7_statement_84 : decode cX7_statement 84 = .ok (.imul, 1) := by decide +kernel
theorem dX7_statement_85 : decode cX7_statement 85 = .ok (.invokevirtual 117, 3) := by decide +kernel
theorem dX7_statement_88 : decode cX7_statement 88 = .ok (.ifCond .eq 12, 3) := by decide +kernel
theorem dX7_statement_91 : decode cX7_statement 91 = .ok (.aload_n 0, 1) := by decide +kernel
theorem dX7_statement_92 : decode cX7_statement 92 = .ok (.invokevirtual 83, 3) := by decide +kernel
theorem dX7_statement_95 : decode cX7_statement 95 = .ok (.bipush 59, 2) := by decide +kernel
theorem dX7_statement_97 : decode cX7_statement 97 = .ok (.if_icmp .eq 5, 3) := by decide +kernel
theorem dX7_statement_100 : decode cX7_statement 100 = .ok (.iconst 0, 1) := by decide +kernel
theorem dX7_statement_101 : decode cX7_statement 101 = .ok (.ireturn, 1) := by decide +kernel
theorem dX7_statement_102 : decode cX7_statement 102 = .ok (.aload_n 0, 1) := by decide +kernel
theorem dX7_statement_103 : decode cX7_statement 103 = .ok (.dup, 1) := by decide +kernel
theorem dX7_statement_104 : decode cX7_statement 104 = .ok (.getfield 80, 3) := by decide +kernel
theorem dX7_statement_107 : decode cX7_statement 107 = .ok (.iconst 1, 1) := by decide +kernel
theorem dX7_statement_108 : decode cX7_statement 108 = .ok (.iadd, 1) := by decide +kernel
theorem dX7_statement_109 : decode cX7_statement 109 = .ok (.putfield 80, 3) := by decide +kernel
theorem dX7_statement_112 : decode cX7_statement 112 = .ok (.iconst 1, 1) := by decide +kernel
theorem dX7_statement_113 : decode cX7_statement 113 = .ok (.ireturn, 1) := by decide +kernel
theorem dX7_comesPerson_0 : decode cX7_comesPerson 0 = .ok (.aload_n 0, 1) := by decide +kernel
theorem dX7_comesPerson_1 : decode cX7_comesPerson 1 = .ok (.getfield 43, 3) := by decide +kernel
theorem dX7_comesPerson_4 : decode cX7_comesPerson 4 = .ok (.iload_n 1, 1) := by decide +kernel
theorem dX7_comesPerson_5 : decode cX7_comesPerson 5 = .ok (.iconst 3, 1) := by decide +kernel
theorem dX7_comesPerson_6 : decode cX7_comesPerson 6 = .ok (.iadd, 1) := by decide +kernel
theorem dX7_comesPerson_7 : decode cX7_comesPerson 7 = .ok (.iaload, 1) := by decide +kernel
theorem dX7_comesPerson_8 : decode cX7_comesPerson 8 = .ok (.iconst 1, 1) := by decide +kernel
theorem dX7_comesPerson_9 : decode cX7_comesPerson 9 = .ok (.if_icmp .gt 27, 3) := by decide +kernel
theorem dX7_comesPerson_12 : decode cX7_comesPerson 12 = .ok (.aload_n 0, 1) := by decide +kernel
theorem dX7_comesPerson_13 : decode cX7_comesPerson 13 = .ok (.getfield 43, 3) := by decide +kernel
theorem dX7_comesPerson_16 : decode cX7_comesPerson 16 = .ok (.iload_n 1, 1) := by decide +kernel
theorem dX7_comesPerson_17 : decode cX7_comesPerson 17 = .ok (.iconst 4, 1) := by decide +kernel
theorem dX7_comesPerson_18 : decode cX7_comesPerson 18 = .ok (.iadd, 1) := by decide +kernel
theorem dX7_comesPerson_19 : decode cX7_comesPerson 19 = .ok (.iaload, 1) := by decide +kernel
theorem dX7_comesPerson_20 : decode cX7_comesPerson 20 = .ok (.iconst 1, 1) := by decide +kernel
theorem dX7_comesPerson_21 : decode cX7_comesPerson 21 = .ok (.iconst 5, 1) := by decide +kernel
theorem dX7_comesPerson_22 : decode cX7_comesPerson 22 = .ok (.invokestatic 87, 3) := by decide +kernel
theorem dX7_comesPerson_25 : decode cX7_comesPerson 25 = .ok (.ifCond .eq 11, 3) := by decide +kernel
theorem dX7_comesPerson_28 : decode cX7_comesPerson 28 = .ok (.aload_n 0, 1) := by decide +kernel
theorem dX7_comesPerson_29 : decode cX7_comesPerson 29 = .ok (.getfield 65, 3) := by decide +kernel
theorem dX7_comesPerson_32 : decode cX7_comesPerson 32 = .ok (.iconst 5, 1) := by decide +kernel
theorem dX7_comesPerson_33 : decode cX7_comesPerson 33 = .ok (.if_icmp .ne 5, 3) := by decide +kernel
theorem dX7_comesPerson_36 : decode cX7_comesPerson 36 = .ok (.iconst 0, 1) := by decide +kernel
theorem dX7_comesPerson_37 : decode cX7_comesPerson 37 = .ok (.ireturn, 1) := by decide +kernel
theorem dX7_comesPerson_38 : decode cX7_comesPerson 38 = .ok (.aload_n 0, 1) := by decide +kernel
theorem dX7_comesPerson_39 : decode cX7_comesPerson 39 = .ok (.getfield 16, 3) := by decide +kernel
theorem dX7_comesPerson_42 : decode cX7_comesPerson 42 = .ok (.aload_n 0, 1) := by decide +kernel
theorem dX7_comesPerson_43 : decode cX7_comesPerson 43 = .ok (.getfield 65, 3) := by decide +kernel
theorem dX7_comesPerson_46 : decode cX7_comesPerson 46 = .ok (.aload_n 0, 1) := by decide +kernel
theorem dX7_comesPerson_47 : decode cX7_comesPerson 47 = .ok (.getfield 43, 3) := by decide +kernel
theorem dX7_comesPerson_50 : decode cX7_comesPerson 50 = .ok (.iload_n 1, 1) := by decide +kernel
theorem dX7_comesPerson_51 : decode cX7_comesPerson 51 = .ok (.iaload, 1) := by decide +kernel
theorem dX7_comesPerson_52 : decode cX7_comesPerson 52 = .ok (.iastore, 1) := by decide +kernel
theorem dX7_comesPerson_53 : decode cX7_comesPerson 53 = .ok (.aload_n 0, 1) := by decide +kernel
theorem dX7_comesPerson_54 : decode cX7_comesPerson 54 = .ok (.getfield 19, 3) := by decide +kernel
theorem dX7_comesPerson_57 : decode cX7_comesPerson 57 = .ok (.aload_n 0, 1) := by decide +kernel
theorem dX7_comesPerson_58 : decode cX7_comesPerson 58 = .ok (.getfield 65, 3) := by decide +kernel
theorem dX7_comesPerson_61 : decode cX7_comesPerson 61 = .ok (.aload_n 0, 1) := by decide +kernel
theorem dX7_comesPerson_62 : decode cX7_comesPerson 62 = .ok (.getfield 43, 3) := by decide +kernel
theorem dX7_comesPerson_65 : decode cX7_comesPerson 65 = .ok (.iload_n 1, 1) := by decide +kernel
theorem dX7_comesPerson_66 : decode cX7_comesPerson 66 = .ok (.iconst 1, 1) := by decide +kernel
theorem dX7_comesPerson_67 : decode cX7_comesPerson 67 = .ok (.iadd, 1) := by decide +kernel
theorem dX7_comesPerson_68 : decode cX7_comesPerson 68 = .ok (.iaload, 1) := by decide +kernel
theorem dX7_comesPerson_69 : decode cX7_comesPerson 69 = .ok (.iastore, 1) := by decide +kernel
theorem dX7_comesPerson_70 : decode cX7_comesPerson 70 = .ok (.aload_n 0, 1) := by decide +kernel
theorem dX7_comesPerson_71 : decode cX7_comesPerson 71 = .ok (.getfield 22, 3) := by decide +kernel
theorem dX7_comesPerson_74 : decode cX7_comesPerson 74 = .ok (.aload_n 0, 1) := by decide +kernel
theorem dX7_comesPerson_75 : decode cX7_comesPerson 75 = .ok (.getfield 65, 3) := by decide +kernel
theorem dX7_comesPerson_78 : decode cX7_comesPerson 78 = .ok (.aload_n 0, 1) := by decide +kernel
theorem dX7_comesPerson_79 : decode cX7_comesPerson 79 = .ok (.getfield 43, 3) := by decide +kernel
theorem dX7_comesPerson_82 : decode cX7_comesPerson 82 = .ok (.iload_n 1, 1) := by decide +kernel
theorem dX7_comesPerson_83 : decode cX7_comesPerson 83 = .ok (.iconst 2, 1) := by decide +kernel
theorem dX7_comesPerson_84 : decode cX7_comesPerson 84 = .ok (.iadd, 1) := by decide +kernel
theorem dX7_comesPerson_85 : decode cX7_comesPerson 85 = .ok (.iaload, 1) := by decide +kernel
theorem dX7_comesPerson_86 : decode cX7_comesPerson 86 = .ok (.iastore, 1) := by decide +kernel
theorem dX7_comesPerson_87 : decode cX7_comesPerson 87 = .ok (.aload_n 0, 1) := by decide +kernel
theorem dX7_comesPerson_88 : decode cX7_comesPerson 88 = .ok (.getfield 25, 3) := by decide +kernel
theorem dX7_comesPerson_91 : decode cX7_comesPerson 91 = .ok (.aload_n 0, 1) := by decide +kernel
theorem dX7_comesPerson_92 : decode cX7_comesPerson 92 = .ok (.getfield 65, 3) := by decide +kernel
theorem dX7_comesPerson_95 : decode cX7_comesPerson 95 = .ok (.aload_n 0, 1) := by decide +kernel
theorem dX7_comesPerson_96 : decode cX7_comesPerson 96 = .ok (.getfield 43, 3) := by decide +kernel
theorem dX7_comesPerson_99 : decode cX7_comesPerson 99 = .ok (.iload_n 1, 1) := by decide +kernel
theorem dX7_comesPerson_100 : decode cX7_comesPerson 100 = .ok (.iconst 3, 1) := by decide +kernel
theorem dX7_comesPerson_101 : decode cX7_comesPerson 101 = .ok (.iadd, 1) := by decide +kernel
theorem dX7_comesPerson_102 : decode cX7_comesPerson 102 = .ok (.iaload, 1) := by decide +kernel
theorem dX7_comesPerson_103 : decode cX7_comesPerson 103 = .ok (.iastore, 1) := by decide +kernel
theorem dX7_comesPerson_104 : decode cX7_comesPerson 104 = .ok (.aload_n 0, 1) := by decide +kernel
theorem dX7_comesPerson_105 : decode cX7_comesPerson 105 = .ok (.getfield 28, 3) := by decide +kernel
theorem dX7_comesPerson_108 : decode cX7_comesPerson 108 = .ok (.aload_n 0, 1) := by decide +kernel
theorem dX7_comesPerson_109 : decode cX7_comesPerson 109 = .ok (.getfield 65, 3) := by decide +kernel
theorem dX7_comesPerson_112 : decode cX7_comesPerson 112 = .ok (.aload_n 0, 1) := by decide +kernel
theorem dX7_comesPerson_113 : decode cX7_comesPerson 113 = .ok (.getfield 43, 3) := by decide +kernel
theorem dX7_comesPerson_116 : decode cX7_comesPerson 116 = .ok (.iload_n 1, 1) := by decide +kernel
theorem dX7_comesPerson_117 : decode cX7_comesPerson 117 = .ok (.iconst 4, 1) := by decide +kernel
theorem dX7_comesPerson_118 : decode cX7_comesPerson 118 = .ok (.iadd, 1) := by decide +kernel
theorem dX7_comesPerson_119 : decode cX7_comesPerson 119 = .ok (.iaload, 1) := by decide +kernel
theorem dX7_comesPerson_120 : decode cX7_comesPerson 120 = .ok (.iastore, 1) := by decide +kernel
theorem dX7_comesPerson_121 : decode cX7_comesPerson 121 = .ok (.aload_n 0, 1) := by decide +kernel
theorem dX7_comesPerson_122 : decode cX7_comesPerson 122 = .ok (.getfield 31, 3) := by decide +kernel
theorem dX7_comesPerson_125 : decode cX7_comesPerson 125 = .ok (.aload_n 0, 1) := by decide +kernel
theorem dX7_comesPerson_126 : decode cX7_comesPerson 126 = .ok (.getfield 65, 3) := by decide +kernel
theorem dX7_comesPerson_129 : decode cX7_comesPerson 129 = .ok (.aload_n 0, 1) := by decide +kernel
theorem dX7_comesPerson_130 : decode cX7_comesPerson 130 = .ok (.getfield 43, 3) := by decide +kernel
theorem dX7_comesPerson_133 : decode cX7_comesPerson 133 = .ok (.iload_n 1, 1) := by decide +kernel
theorem dX7_comesPerson_134 : decode cX7_comesPerson 134 = .ok (.iconst 5, 1) := by decide +kernel
theorem dX7_comesPerson_135 : decode cX7_comesPerson 135 = .ok (.iadd, 1) := by decide +kernel
theorem dX7_comesPerson_136 : decode cX7_comesPerson 136 = .ok (.iaload, 1) := by decide +kernel
theorem dX7_comesPerson_137 : decode cX7_comesPerson 137 = .ok (.iastore, 1) := by decide +kernel
theorem dX7_comesPerson_138 : decode cX7_comesPerson 138 = .ok (.aload_n 0, 1) := by decide +kernel
theorem dX7_comesPerson_139 : decode cX7_comesPerson 139 = .ok (.dup, 1) := by decide +kernel
theorem dX7_comesPerson_140 : decode cX7_comesPerson 140 = .ok (.getfield 65, 3) := by decide +kernel
theorem dX7_comesPerson_143 : decode cX7_comesPerson 143 = .ok (.iconst 1, 1) := by decide +kernel
theorem dX7_comesPerson_144 : decode cX7_comesPerson 144 = .ok (.iadd, 1) := by decide +kernel
theorem dX7_comesPerson_145 : decode cX7_comesPerson 145 = .ok (.putfield 65, 3) := by decide +kernel
theorem dX7_comesPerson_148 : decode cX7_comesPerson 148 = .ok (.iconst 1, 1) := by decide +kernel
theorem dX7_comesPerson_149 : decode cX7_comesPerson 149 = .ok (.ireturn, 1) := by decide +kernel
theorem dX7_comesSet_0 : decode cX7_comesSet 0 = .ok (.iload_n 2, 1) := by decide +kernel
theorem dX7_comesSet_1 : decode cX7_comesSet 1 = .ok (.iload_n 1, 1) := by decide +kernel
theorem dX7_comesSet_2 : decode cX7_comesSet 2 = .ok (.invokestatic 120, 3) := by decide +kernel
theorem dX7_comesSet_5 : decode cX7_comesSet 5 = .ok (.iload_n 1, 1) := by decide +kernel
theorem dX7_comesSet_6 : decode cX7_comesSet 6 = .ok (.invokestatic 123, 3) := by decide +kernel
theorem dX7_comesSet_9 : decode cX7_comesSet 9 = .ok (.invokestatic 87, 3) := by decide +kernel
theorem dX7_comesSet_12 : decode cX7_comesSet 12 = .ok (.ifCond .ne 5, 3) := by decide +kernel
theorem dX7_comesSet_15 : decode cX7_comesSet 15 = .ok (.iconst 0, 1) := by decide +kernel
theorem dX7_comesSet_16 : decode cX7_comesSet 16 = .ok (.ireturn, 1) := by decide +kernel
theorem dX7_comesSet_17 : decode cX7_comesSet 17 = .ok (.aload_n 0, 1) := by decide +kernel
theorem dX7_comesSet_18 : decode cX7_comesSet 18 = .ok (.getfield 13, 3) := by decide +kernel
theorem dX7_comesSet_21 : decode cX7_comesSet 21 = .ok (.iload_n 1, 1) := by decide +kernel
theorem dX7_comesSet_22 : decode cX7_comesSet 22 = .ok (.iload_n 2, 1) := by decide +kernel
theorem dX7_comesSet_23 : decode cX7_comesSet 23 = .ok (.iastore, 1) := by decide +kernel
theorem dX7_comesSet_24 : decode cX7_comesSet 24 = .ok (.iconst 1, 1) := by decide +kernel
theorem dX7_comesSet_25 : decode cX7_comesSet 25 = .ok (.ireturn, 1) := by decide +kernel
theorem dX7_comes_0 : decode cX7_comes 0 = .ok (.bipush 6, 2) := by decide +kernel
theorem dX7_comes_2 : decode cX7_comes 2 = .ok (.iload_n 1, 1) := by decide +kernel
theorem dX7_comes_3 : decode cX7_comes 3 = .ok (.imul, 1) := by decide +kernel
theorem dX7_comes_4 : decode cX7_comes 4 = .ok (.istore_n 2, 1) := by decide +kernel
theorem dX7_comes_5 : decode cX7_comes 5 = .ok (.aload_n 0, 1) := by decide +kernel
theorem dX7_comes_6 : decode cX7_comes 6 = .ok (.getfield 43, 3) := by decide +kernel
theorem dX7_comes_9 : decode cX7_comes 9 = .ok (.iload_n 2, 1) := by decide +kernel
theorem dX7_comes_10 : decode cX7_comes 10 = .ok (.iaload, 1) := by decide +kernel
theorem dX7_comes_11 : decode cX7_comes 11 = .ok (.istore_n 3, 1) := by decide +kernel
theorem dX7_comes_12 : decode cX7_comes 12 = .ok (.aload_n 0, 1) := by decide +kernel
theorem dX7_comes_13 : decode cX7_comes 13 = .ok (.getfield 37, 3) := by decide +kernel
theorem dX7_comes_16 : decode cX7_comes 16 = .ok (.iload_n 1, 1) := by decide +kernel
theorem dX7_comes_17 : decode cX7_comes 17 = .ok (.iaload, 1) := by decide +kernel
theorem dX7_comes_18 : decode cX7_comes 18 = .ok (.lookupswitch 154 #[(100, 92), (112, 50), (114, 111), (115, 63), (119, 56)], 50) := by decide +kernel
theorem dX7_comes_68 : decode cX7_comes 68 = .ok (.aload_n 0, 1) := by decide +kernel
theorem dX7_comes_69 : decode cX7_comes 69 = .ok (.iload_n 2, 1) := by decide +kernel
theorem dX7_comes_70 : decode cX7_comes 70 = .ok (.invokevirtual 126, 3) := by decide +kernel
theorem dX7_comes_73 : decode cX7_comes 73 = .ok (.ireturn, 1) := by decide +kernel
theorem dX7_comes_74 : decode cX7_comes 74 = .ok (.aload_n 0, 1) := by decide +kernel
theorem dX7_comes_75 : decode cX7_comes 75 = .ok (.iconst 0, 1) := by decide +kernel
theorem dX7_comes_76 : decode cX7_comes 76 = .ok (.iload_n 3, 1) := by decide +kernel
theorem dX7_comes_77 : decode cX7_comes 77 = .ok (.invokevirtual 129, 3) := by decide +kernel
theorem dX7_comes_80 : decode cX7_comes 80 = .ok (.ireturn, 1) := by decide +kernel
theorem dX7_comes_81 : decode cX7_comes 81 = .ok (.iload_n 3, 1) := by decide +kernel
theorem dX7_comes_82 : decode cX7_comes 82 = .ok (.iconst 2, 1) := by decide +kernel
theorem dX7_comes_83 : decode cX7_comes 83 = .ok (.if_icmp .ge 25, 3) := by decide +kernel
theorem dX7_comes_86 : decode cX7_comes 86 = .ok (.aload_n 0, 1) := by decide +kernel
theorem dX7_comes_87 : decode cX7_comes 87 = .ok (.iconst 1, 1) := by decide +kernel
theorem dX7_comes_88 : decode cX7_comes 88 = .ok (.iload_n 3, 1) := by decide +kernel
theorem dX7_comes_89 : decode cX7_comes 89 = .ok (.iadd, 1) := by decide +kernel
theorem dX7_comes_90 : decode cX7_comes 90 = .ok (.aload_n 0, 1) := by decide +kernel
theorem dX7_comes_91 : decode cX7_comes 91 = .ok (.getfield 43, 3) := by decide +kernel
theorem dX7_comes_94 : decode cX7_comes 94 = .ok (.iload_n 2, 1) := by decide +kernel
theorem dX7_comes_95 : decode cX7_comes 95 = .ok (.iconst 1, 1) := by decide +kernel
theorem dX7_comes_96 : decode cX7_comes 96 = .ok (.iadd, 1) := by decide +kernel
theorem dX7_comes_97 : decode cX7_comes 97 = .ok (.iaload, 1) := by decide +kernel
theorem dX7_comes_98 : decode cX7_comes 98 = .ok (.invokevirtual 129, 3) := by decide +kernel
theorem dX7_comes_101 : decode cX7_comes 101 = .ok (.ifCond .eq 7, 3) := by decide +kernel
theorem dX7_comes_104 : decode cX7_comes 104 = .ok (.iconst 1, 1) := by decide +kernel
theorem dX7_comes_105 : decode cX7_comes 105 = .ok (.goto 4, 3) := by decide +kernel
theorem dX7_comes_108 : decode cX7_comes 108 = .ok (.iconst 0, 1) := by decide +kernel
theorem dX7_comes_109 : decode cX7_comes 109 = .ok (.ireturn, 1) := by decide +kernel
theorem dX7_comes_110 : decode cX7_comes 110 = .ok (.aload_n 0, 1) := by decide +kernel
theorem dX7_comes_111 : decode cX7_comes 111 = .ok (.iload_n 3, 1) := by decide +kernel
theorem dX7_comes_112 : decode cX7_comes 112 = .ok (.putfield 132, 3) := by decide +kernel
theorem dX7_comes_115 : decode cX7_comes 115 = .ok (.aload_n 0, 1) := by decide +kernel
theorem dX7_comes_116 : decode cX7_comes 116 = .ok (.iconst 3, 1) := by decide +kernel
theorem dX7_comes_117 : decode cX7_comes 117 = .ok (.aload_n 0, 1) := by decide +kernel
theorem dX7_comes_118 : decode cX7_comes 118 = .ok (.getfield 43, 3) := by decide +kernel
theorem dX7_comes_121 : decode cX7_comes 121 = .ok (.iload_n 2, 1) := by decide +kernel
theorem dX7_comes_122 : decode cX7_comes 122 = .ok (.iconst 1, 1) := by decide +kernel
theorem dX7_comes_123 : decode cX7_comes 123 = .ok (.iadd, 1) := by decide +kernel
theorem dX7_comes_124 : decode cX7_comes 124 = .ok (.iaload, 1) := by decide +kernel
theorem dX7_comes_125 : decode cX7_comes 125 = .ok (.invokevirtual 129, 3) := by decide +kernel
theorem dX7_comes_128 : decode cX7_comes 128 = .ok (.ireturn, 1) := by decide +kernel
theorem dX7_comes_129 : decode cX7_comes 129 = .ok (.aload_n 0, 1) := by decide +kernel
theorem dX7_comes_130 : decode cX7_comes 130 = .ok (.iload_n 3, 1) := by decide +kernel
theorem dX7_comes_131 : decode cX7_comes 131 = .ok (.putfield 135, 3) := by decide +kernel
theorem dX7_comes_134 : decode cX7_comes 134 = .ok (.aload_n 0, 1) := by decide +kernel
theorem dX7_comes_135 : decode cX7_comes 135 = .ok (.iconst 4, 1) := by decide +kernel
theorem dX7_comes_136 : decode cX7_comes 136 = .ok (.aload_n 0, 1) := by decide +kernel
theorem dX7_comes_137 : decode cX7_comes 137 = .ok (.getfield 43, 3) := by decide +kernel
theorem dX7_comes_140 : decode cX7_comes 140 = .ok (.iload_n 2, 1) := by decide +kernel
theorem dX7_comes_141 : decode cX7_comes 141 = .ok (.iconst 1, 1) := by decide +kernel
theorem dX7_comes_142 : decode cX7_comes 142 = .ok (.iadd, 1) := by decide +kernel
theorem dX7_comes_143 : decode cX7_comes 143 = .ok (.iaload, 1) := by decide +kernel
theorem dX7_comes_144 : decode cX7_comes 144 = .ok (.invokevirtual 129, 3) := by decide +kernel
theorem dX7_comes_147 : decode cX7_comes 147 = .ok (.ifCond .eq 23, 3) := by decide +kernel
theorem dX7_comes_150 : decode cX7_comes 150 = .ok (.aload_n 0, 1) := by decide +kernel
theorem dX7_comes_151 : decode cX7_comes 151 = .ok (.iconst 5, 1) := by decide +kernel
theorem dX7_comes_152 : decode cX7_comes 152 = .ok (.aload_n 0, 1) := by decide +kernel
theorem dX7_comes_153 : decode cX7_comes 153 = .ok (.getfield 43, 3) := by decide +kernel
theorem dX7_comes_156 : decode cX7_comes 156 = .ok (.iload_n 2, 1) := by decide +kernel
theorem dX7_comes_157 : decode cX7_comes 157 = .ok (.iconst 2, 1) := by decide +kernel
theorem dX7_comes_158 : decode cX7_comes 158 = .ok (.iadd, 1) := by decide +kernel
theorem dX7_comes_159 : decode cX7_comes 159 = .ok (.iaload, 1) := by decide +kernel
theorem dX7_comes_160 : decode cX7_comes 160 = .ok (.invokevirtual 129, 3) := by decide +kernel
theorem dX7_comes_163 : decode cX7_comes 163 = .ok (.ifCond .eq 7, 3) := by decide +kernel
theorem dX7_comes_166 : decode cX7_comes 166 = .ok (.iconst 1, 1) := by decide +kernel
theorem dX7_comes_167 : decode cX7_comes 167 = .ok (.goto 4, 3) := by decide +kernel
theorem dX7_comes_170 : decode cX7_comes 170 = .ok (.iconst 0, 1) := by decide +kernel
theorem dX7_comes_171 : decode cX7_comes 171 = .ok (.ireturn, 1) := by decide +kernel
theorem dX7_comes_172 : decode cX7_comes 172 = .ok (.iload_n 3, 1) := by decide +kernel
theorem dX7_comes_173 : decode cX7_comes 173 = .ok (.iconst 1, 1) := by decide +kernel
theorem dX7_comes_174 : decode cX7_comes 174 = .ok (.bipush 60, 2) := by decide +kernel
theorem dX7_comes_176 : decode cX7_comes 176 = .ok (.invokestatic 87, 3) := by decide +kernel
theorem dX7_comes_179 : decode cX7_comes 179 = .ok (.ifCond .eq 15, 3) := by decide +kernel
theorem dX7_comes_182 : decode cX7_comes 182 = .ok (.aload_n 0, 1) := by decide +kernel
theorem dX7_comes_183 : decode cX7_comes 183 = .ok (.getfield 138, 3) := by decide +kernel
theorem dX7_comes_186 : decode cX7_comes 186 = .ok (.iload_n 3, 1) := by decide +kernel
theorem dX7_comes_187 : decode cX7_comes 187 = .ok (.iadd, 1) := by decide +kernel
theorem dX7_comes_188 : decode cX7_comes 188 = .ok (.sipush 9999, 3) := by decide +kernel
theorem dX7_comes_191 : decode cX7_comes 191 = .ok (.if_icmp .le 5, 3) := by decide +kernel
theorem dX7_comes_194 : decode cX7_comes 194 = .ok (.iconst 0, 1) := by decide +kernel
theorem dX7_comes_195 : decode cX7_comes 195 = .ok (.ireturn, 1) := by decide +kernel
theorem dX7_comes_196 : decode cX7_comes 196 = .ok (.aload_n 0, 1) := by decide +kernel
theorem dX7_comes_197 : decode cX7_comes 197 = .ok (.iload_n 3, 1) := by decide +kernel
theorem dX7_comes_198 : decode cX7_comes 198 = .ok (.invokevirtual 141, 3) := by decide +kernel
theorem dX7_comes_201 : decode cX7_comes 201 = .ok (.iconst 1, 1) := by decide +kernel
theorem dX7_comes_202 : decode cX7_comes 202 = .ok (.ireturn, 1) := by decide +kernel
theorem dX7_parlour_0 : decode cX7_parlour 0 = .ok (.aload_n 0, 1) := by decide +kernel
theorem dX7_parlour_1 : decode cX7_parlour 1 = .ok (.iconst 0, 1) := by decide +kernel
theorem dX7_parlour_2 : decode cX7_parlour 2 = .ok (.putfield 80, 3) := by decide +kernel
theorem dX7_parlour_5 : decode cX7_parlour 5 = .ok (.aload_n 0, 1) := by decide +kernel
theorem dX7_parlour_6 : decode cX7_parlour 6 = .ok (.iconst 0, 1) := by decide +kernel
theorem dX7_parlour_7 : decode cX7_parlour 7 = .ok (.putfield 114, 3) := by decide +kernel
theorem dX7_parlour_10 : decode cX7_parlour 10 = .ok (.iconst 1, 1) := by decide +kernel
theorem dX7_parlour_11 : decode cX7_parlour 11 = .ok (.istore_n 1, 1) := by decide +kernel
theorem dX7_parlour_12 : decode cX7_parlour 12 = .ok (.iload_n 1, 1) := by decide +kernel
theorem dX7_parlour_13 : decode cX7_parlour 13 = .ok (.ifCond .eq 47, 3) := by decide +kernel
theorem dX7_parlour_16 : decode cX7_parlour 16 = .ok (.aload_n 0, 1) := by decide +kernel
theorem dX7_parlour_17 : decode cX7_parlour 17 = .ok (.getfield 80, 3) := by decide +kernel
theorem dX7_parlour_20 : decode cX7_parlour 20 = .ok (.aload_n 0, 1) := by decide +kernel
theorem dX7_parlour_21 : decode cX7_parlour 21 = .ok (.getfield 73, 3) := by decide +kernel
theorem dX7_parlour_24 : decode cX7_parlour 24 = .ok (.if_icmp .lt 10, 3) := by decide +kernel
theorem dX7_parlour_27 : decode cX7_parlour 27 = .ok (.aload_n 0, 1) := by decide +kernel
theorem dX7_parlour_28 : decode cX7_parlour 28 = .ok (.getfield 114, 3) := by decide +kernel
theorem dX7_parlour_31 : decode cX7_parlour 31 = .ok (.ifCond .ne 29, 3) := by decide +kernel
theorem dX7_parlour_34 : decode cX7_parlour 34 = .ok (.aload_n 0, 1) := by decide +kernel
theorem dX7_parlour_35 : decode cX7_parlour 35 = .ok (.invokevirtual 145, 3) := by decide +kernel
theorem dX7_parlour_38 : decode cX7_parlour 38 = .ok (.istore_n 1, 1) := by decide +kernel
theorem dX7_parlour_39 : decode cX7_parlour 39 = .ok (.aload_n 0, 1) := by decide +kernel
theorem dX7_parlour_40 : decode cX7_parlour 40 = .ok (.dup, 1) := by decide +kernel
theorem dX7_parlour_41 : decode cX7_parlour 41 = .ok (.getfield 114, 3) := by decide +kernel
theorem dX7_parlour_44 : decode cX7_parlour 44 = .ok (.iload_n 1, 1) := by decide +kernel
theorem dX7_parlour_45 : decode cX7_parlour 45 = .ok (.ifCond .eq 7, 3) := by decide +kernel
theorem dX7_parlour_48 : decode cX7_parlour 48 = .ok (.iconst 1, 1) := by decide +kernel
theorem dX7_parlour_49 : decode cX7_parlour 49 = .ok (.goto 4, 3) := by decide +kernel
theorem dX7_parlour_52 : decode cX7_parlour 52 = .ok (.iconst 0, 1) := by decide +kernel
theorem dX7_parlour_53 : decode cX7_parlour 53 = .ok (.iadd, 1) := by decide +kernel
theorem dX7_parlour_54 : decode cX7_parlour 54 = .ok (.putfield 114, 3) := by decide +kernel
theorem dX7_parlour_57 : decode cX7_parlour 57 = .ok (.goto (-45), 3) := by decide +kernel
theorem dX7_parlour_60 : decode cX7_parlour 60 = .ok (.aload_n 0, 1) := by decide +kernel
theorem dX7_parlour_61 : decode cX7_parlour 61 = .ok (.iconst 0, 1) := by decide +kernel
theorem dX7_parlour_62 : decode cX7_parlour 62 = .ok (.putfield 73, 3) := by decide +kernel
theorem dX7_parlour_65 : decode cX7_parlour 65 = .ok (.iload_n 1, 1) := by decide +kernel
theorem dX7_parlour_66 : decode cX7_parlour 66 = .ok (.ifCond .ne 12, 3) := by decide +kernel
theorem dX7_parlour_69 : decode cX7_parlour 69 = .ok (.sipush (-1000), 3) := by decide +kernel
theorem dX7_parlour_72 : decode cX7_parlour 72 = .ok (.aload_n 0, 1) := by decide +kernel
theorem dX7_parlour_73 : decode cX7_parlour 73 = .ok (.getfield 80, 3) := by decide +kernel
theorem dX7_parlour_76 : decode cX7_parlour 76 = .ok (.isub, 1) := by decide +kernel
theorem dX7_parlour_77 : decode cX7_parlour 77 = .ok (.ireturn, 1) := by decide +kernel
theorem dX7_parlour_78 : decode cX7_parlour 78 = .ok (.aload_n 0, 1) := by decide +kernel
theorem dX7_parlour_79 : decode cX7_parlour 79 = .ok (.iconst 1, 1) := by decide +kernel
theorem dX7_parlour_80 : decode cX7_parlour 80 = .ok (.iconst 1, 1) := by decide +kernel
theorem dX7_parlour_81 : decode cX7_parlour 81 = .ok (.invokevirtual 149, 3) := by decide +kernel
theorem dX7_parlour_84 : decode cX7_parlour 84 = .ok (.iconst 0, 1) := by decide +kernel
theorem dX7_parlour_85 : decode cX7_parlour 85 = .ok (.istore_n 2, 1) := by decide +kernel
theorem dX7_parlour_86 : decode cX7_parlour 86 = .ok (.iload_n 2, 1) := by decide +kernel
theorem dX7_parlour_87 : decode cX7_parlour 87 = .ok (.aload_n 0, 1) := by decide +kernel
theorem dX7_parlour_88 : decode cX7_parlour 88 = .ok (.getfield 114, 3) := by decide +kernel
theorem dX7_parlour_91 : decode cX7_parlour 91 = .ok (.if_icmp .ge 37, 3) := by decide +kernel
theorem dX7_parlour_94 : decode cX7_parlour 94 = .ok (.aload_n 0, 1) := by decide +kernel
theorem dX7_parlour_95 : decode cX7_parlour 95 = .ok (.iload_n 2, 1) := by decide +kernel
theorem dX7_parlour_96 : decode cX7_parlour 96 = .ok (.invokevirtual 153, 3) := by decide +kernel
theorem dX7_parlour_99 : decode cX7_parlour 99 = .ok (.ifCond .eq 6, 3) := by decide +kernel
theorem dX7_parlour_102 : decode cX7_parlour 102 = .ok (.goto 20, 3) := by decide +kernel
theorem dX7_parlour_105 : decode cX7_parlour 105 = .ok (.aload_n 0, 1) := by decide +kernel
theorem dX7_parlour_106 : decode cX7_parlour 106 = .ok (.iconst 1, 1) := by decide +kernel
theorem dX7_parlour_107 : decode cX7_parlour 107 = .ok (.iconst 0, 1) := by decide +kernel
theorem dX7_parlour_108 : decode cX7_parlour 108 = .ok (.invokevirtual 149, 3) := by decide +kernel
theorem dX7_parlour_111 : decode cX7_parlour 111 = .ok (.sipush (-2000), 3) := by decide +kernel
theorem dX7_parlour_114 : decode cX7_parlour 114 = .ok (.aload_n 0, 1) := by decide +kernel
theorem dX7_parlour_115 : decode cX7_parlour 115 = .ok (.getfield 40, 3) := by decide +kernel
theorem dX7_parlour_118 : decode cX7_parlour 118 = .ok (.iload_n 2, 1) := by decide +kernel
theorem dX7_parlour_119 : decode cX7_parlour 119 = .ok (.iaload, 1) := by decide +kernel
theorem dX7_parlour_120 : decode cX7_parlour 120 = .ok (.isub, 1) := by decide +kernel
theorem dX7_parlour_121 : decode cX7_parlour 121 = .ok (.ireturn, 1) := by decide +kernel
theorem dX7_parlour_122 : decode cX7_parlour 122 = .ok (.iinc 2 1, 3) := by decide +kernel
theorem dX7_parlour_125 : decode cX7_parlour 125 = .ok (.goto (-39), 3) := by decide +kernel
theorem dX7_parlour_128 : decode cX7_parlour 128 = .ok (.aload_n 0, 1) := by decide +kernel
theorem dX7_parlour_129 : decode cX7_parlour 129 = .ok (.getfield 114, 3) := by decide +kernel
theorem dX7_parlour_132 : decode cX7_parlour 132 = .ok (.ireturn, 1) := by decide +kernel
theorem dX7_passes_0 : decode cX7_passes 0 = .ok (.iconst 0, 1) := by decide +kernel
theorem dX7_passes_1 : decode cX7_passes 1 = .ok (.istore_n 2, 1) := by decide +kernel
theorem dX7_passes_2 : decode cX7_passes 2 = .ok (.iload_n 2, 1) := by decide +kernel
theorem dX7_passes_3 : decode cX7_passes 3 = .ok (.aload_n 1, 1) := by decide +kernel
theorem dX7_passes_4 : decode cX7_passes 4 = .ok (.arraylength, 1) := by decide +kernel
theorem dX7_passes_5 : decode cX7_passes 5 = .ok (.if_icmp .ge 53, 3) := by decide +kernel
theorem dX7_passes_8 : decode cX7_passes 8 = .ok (.aload_n 0, 1) := by decide +kernel
theorem dX7_passes_9 : decode cX7_passes 9 = .ok (.getfield 156, 3) := by decide +kernel
theorem dX7_passes_12 : decode cX7_passes 12 = .ok (.ifCond .eq 18, 3) := by decide +kernel
theorem dX7_passes_15 : decode cX7_passes 15 = .ok (.aload_n 0, 1) := by decide +kernel
theorem dX7_passes_16 : decode cX7_passes 16 = .ok (.getfield 46, 3) := by decide +kernel
theorem dX7_passes_19 : decode cX7_passes 19 = .ok (.aload_n 0, 1) := by decide +kernel
theorem dX7_passes_20 : decode cX7_passes 20 = .ok (.getfield 160, 3) := by decide +kernel
theorem dX7_passes_23 : decode cX7_passes 23 = .ok (.aload_n 1, 1) := by decide +kernel
theorem dX7_passes_24 : decode cX7_passes 24 = .ok (.iload_n 2, 1) := by decide +kernel
theorem dX7_passes_25 : decode cX7_passes 25 = .ok (.iaload, 1) := by decide +kernel
theorem dX7_passes_26 : decode cX7_passes 26 = .ok (.iastore, 1) := by decide +kernel
theorem dX7_passes_27 : decode cX7_passes 27 = .ok (.goto 15, 3) := by decide +kernel
theorem dX7_passes_30 : decode cX7_passes 30 = .ok (.aload_n 1, 1) := by decide +kernel
theorem dX7_passes_31 : decode cX7_passes 31 = .ok (.iload_n 2, 1) := by decide +kernel
theorem dX7_passes_32 : decode cX7_passes 32 = .ok (.aload_n 0, 1) := by decide +kernel
theorem dX7_passes_33 : decode cX7_passes 33 = .ok (.getfield 46, 3) := by decide +kernel
theorem dX7_passes_36 : decode cX7_passes 36 = .ok (.aload_n 0, 1) := by decide +kernel
theorem dX7_passes_37 : decode cX7_passes 37 = .ok (.getfield 160, 3) := by decide +kernel
theorem dX7_passes_40 : decode cX7_passes 40 = .ok (.iaload, 1) := by decide +kernel
theorem dX7_passes_41 : decode cX7_passes 41 = .ok (.iastore, 1) := by decide +kernel
theorem dX7_passes_42 : decode cX7_passes 42 = .ok (.aload_n 0, 1) := by decide +kernel
theorem dX7_passes_43 : decode cX7_passes 43 = .ok (.dup, 1) := by decide +kernel
theorem dX7_passes_44 : decode cX7_passes 44 = .ok (.getfield 160, 3) := by decide +kernel
theorem dX7_passes_47 : decode cX7_passes 47 = .ok (.iconst 1, 1) := by decide +kernel
theorem dX7_passes_48 : decode cX7_passes 48 = .ok (.iadd, 1) := by decide +kernel
theorem dX7_passes_49 : decode cX7_passes 49 = .ok (.putfield 160, 3) := by decide +kernel
theorem dX7_passes_52 : decode cX7_passes 52 = .ok (.iinc 2 1, 3) := by decide +kernel
theorem dX7_passes_55 : decode cX7_passes 55 = .ok (.goto (-53), 3) := by decide +kernel
theorem dX7_passes_58 : decode cX7_passes 58 = .ok (.return_, 1) := by decide +kernel
theorem dX7_passOne_0 : decode cX7_passOne 0 = .ok (.aload_n 0, 1) := by decide +kernel
theorem dX7_passOne_1 : decode cX7_passOne 1 = .ok (.getfield 156, 3) := by decide +kernel
theorem dX7_passOne_4 : decode cX7_passOne 4 = .ok (.ifCond .eq 7, 3) := by decide +kernel
theorem dX7_passOne_7 : decode cX7_passOne 7 = .ok (.iload_n 1, 1) := by decide +kernel
theorem dX7_passOne_8 : decode cX7_passOne 8 = .ok (.goto 12, 3) := by decide +kernel
theorem dX7_passOne_11 : decode cX7_passOne 11 = .ok (.aload_n 0, 1) := by decide +kernel
theorem dX7_passOne_12 : decode cX7_passOne 12 = .ok (.getfield 46, 3) := by decide +kernel
theorem dX7_passOne_15 : decode cX7_passOne 15 = .ok (.aload_n 0, 1) := by decide +kernel
theorem dX7_passOne_16 : decode cX7_passOne 16 = .ok (.getfield 160, 3) := by decide +kernel
theorem dX7_passOne_19 : decode cX7_passOne 19 = .ok (.iaload, 1) := by decide +kernel
theorem dX7_passOne_20 : decode cX7_passOne 20 = .ok (.istore_n 2, 1) := by decide +kernel
theorem dX7_passOne_21 : decode cX7_passOne 21 = .ok (.aload_n 0, 1) := by decide +kernel
theorem dX7_passOne_22 : decode cX7_passOne 22 = .ok (.getfield 156, 3) := by decide +kernel
theorem dX7_passOne_25 : decode cX7_passOne 25 = .ok (.ifCond .eq 13, 3) := by decide +kernel
theorem dX7_passOne_28 : decode cX7_passOne 28 = .ok (.aload_n 0, 1) := by decide +kernel
theorem dX7_passOne_29 : decode cX7_passOne 29 = .ok (.getfield 46, 3) := by decide +kernel
theorem dX7_passOne_32 : decode cX7_passOne 32 = .ok (.aload_n 0, 1) := by decide +kernel
theorem dX7_passOne_33 : decode cX7_passOne 33 = .ok (.getfield 160, 3) := by decide +kernel
theorem dX7_passOne_36 : decode cX7_passOne 36 = .ok (.iload_n 1, 1) := by decide +kernel
theorem dX7_passOne_37 : decode cX7_passOne 37 = .ok (.iastore, 1) := by decide +kernel
theorem dX7_passOne_38 : decode cX7_passOne 38 = .ok (.aload_n 0, 1) := by decide +kernel
theorem dX7_passOne_39 : decode cX7_passOne 39 = .ok (.dup, 1) := by decide +kernel
theorem dX7_passOne_40 : decode cX7_passOne 40 = .ok (.getfield 160, 3) := by decide +kernel
theorem dX7_passOne_43 : decode cX7_passOne 43 = .ok (.iconst 1, 1) := by decide +kernel
theorem dX7_passOne_44 : decode cX7_passOne 44 = .ok (.iadd, 1) := by decide +kernel
theorem dX7_passOne_45 : decode cX7_passOne 45 = .ok (.putfield 160, 3) := by decide +kernel
theorem dX7_passOne_48 : decode cX7_passOne 48 = .ok (.iload_n 2, 1) := by decide +kernel
theorem dX7_passOne_49 : decode cX7_passOne 49 = .ok (.ireturn, 1) := by decide +kernel
theorem dX7_passesAll_0 : decode cX7_passesAll 0 = .ok (.aload_n 0, 1) := by decide +kernel
theorem dX7_passesAll_1 : decode cX7_passesAll 1 = .ok (.bipush 50, 2) := by decide +kernel
theorem dX7_passesAll_3 : decode cX7_passesAll 3 = .ok (.iload_n 1, 1) := by decide +kernel
theorem dX7_passesAll_4 : decode cX7_passesAll 4 = .ok (.imul, 1) := by decide +kernel
theorem dX7_passesAll_5 : decode cX7_passesAll 5 = .ok (.putfield 160, 3) := by decide +kernel
theorem dX7_passesAll_8 : decode cX7_passesAll 8 = .ok (.aload_n 0, 1) := by decide +kernel
theorem dX7_passesAll_9 : decode cX7_passesAll 9 = .ok (.iload_n 2, 1) := by decide +kernel
theorem dX7_passesAll_10 : decode cX7_passesAll 10 = .ok (.putfield 156, 3) := by decide +kernel
theorem dX7_passesAll_13 : decode cX7_passesAll 13 = .ok (.aload_n 0, 1) := by decide +kernel
theorem dX7_passesAll_14 : decode cX7_passesAll 14 = .ok (.aload_n 0, 1) := by decide +kernel
theorem dX7_passesAll_15 : decode cX7_passesAll 15 = .ok (.getfield 13, 3) := by decide +kernel
theorem dX7_passesAll_18 : decode cX7_passesAll 18 = .ok (.invokevirtual 163, 3) := by decide +kernel
theorem dX7_passesAll_21 : decode cX7_passesAll 21 = .ok (.aload_n 0, 1) := by decide +kernel
theorem dX7_passesAll_22 : decode cX7_passesAll 22 = .ok (.aload_n 0, 1) := by decide +kernel
theorem dX7_passesAll_23 : decode cX7_passesAll 23 = .ok (.getfield 16, 3) := by decide +kernel
theorem dX7_passesAll_26 : decode cX7_passesAll 26 = .ok (.invokevirtual 163, 3) := by decide +kernel
theorem dX7_passesAll_29 : decode cX7_passesAll 29 = .ok (.aload_n 0, 1) := by decide +kernel
theorem dX7_passesAll_30 : decode cX7_passesAll 30 = .ok (.aload_n 0, 1) := by decide +kernel
theorem dX7_passesAll_31 : decode cX7_passesAll 31 = .ok (.getfield 19, 3) := by decide +kernel
theorem dX7_passesAll_34 : decode cX7_passesAll 34 = .ok (.invokevirtual 163, 3) := by decide +kernel
theorem dX7_passesAll_37 : decode cX7_passesAll 37 = .ok (.aload_n 0, 1) := by decide +kernel
theorem dX7_passesAll_38 : decode cX7_passesAll 38 = .ok (.aload_n 0, 1) := by decide +kernel
theorem dX7_passesAll_39 : decode cX7_passesAll 39 = .ok (.getfield 22, 3) := by decide +kernel
theorem dX7_passesAll_42 : decode cX7_passesAll 42 = .ok (.invokevirtual 163, 3) := by decide +kernel
theorem dX7_passesAll_45 : decode cX7_passesAll 45 = .ok (.aload_n 0, 1) := by decide +kernel
theorem dX7_passesAll_46 : decode cX7_passesAll 46 = .ok (.aload_n 0, 1) := by decide +kernel
theorem dX7_passesAll_47 : decode cX7_passesAll 47 = .ok (.getfield 25, 3) := by decide +kernel
theorem dX7_passesAll_50 : decode cX7_passesAll 50 = .ok (.invokevirtual 163, 3) := by decide +kernel
theorem dX7_passesAll_53 : decode cX7_passesAll 53 = .ok (.aload_n 0, 1) := by decide +kernel
theorem dX7_passesAll_54 : decode cX7_passesAll 54 = .ok (.aload_n 0, 1) := by decide +kernel
theorem dX7_passesAll_55 : decode cX7_passesAll 55 = .ok (.getfield 28, 3) := by decide +kernel
theorem dX7_passesAll_58 : decode cX7_passesAll 58 = .ok (.invokevirtual 163, 3) := by decide +kernel
theorem dX7_passesAll_61 : decode cX7_passesAll 61 = .ok (.aload_n 0, 1) := by decide +kernel
theorem dX7_passesAll_62 : decode cX7_passesAll 62 = .ok (.aload_n 0, 1) := by decide +kernel
theorem dX7_passesAll_63 : decode cX7_passesAll 63 = .ok (.getfield 31, 3) := by decide +kernel
theorem dX7_passesAll_66 : decode cX7_passesAll 66 = .ok (.invokevirtual 163, 3) := by decide +kernel
theorem dX7_passesAll_69 : decode cX7_passesAll 69 = .ok (.aload_n 0, 1) := by decide +kernel
theorem dX7_passesAll_70 : decode cX7_passesAll 70 = .ok (.aload_n 0, 1) := by decide +kernel
theorem dX7_passesAll_71 : decode cX7_passesAll 71 = .ok (.aload_n 0, 1) := by decide +kernel
theorem dX7_passesAll_72 : decode cX7_passesAll 72 = .ok (.getfield 65, 3) := by decide +kernel
theorem dX7_passesAll_75 : decode cX7_passesAll 75 = .ok (.invokevirtual 167, 3) := by decide +kernel
theorem dX7_passesAll_78 : decode cX7_passesAll 78 = .ok (.putfield 65, 3) := by decide +kernel
theorem dX7_passesAll_81 : decode cX7_passesAll 81 = .ok (.aload_n 0, 1) := by decide +kernel
theorem dX7_passesAll_82 : decode cX7_passesAll 82 = .ok (.aload_n 0, 1) := by decide +kernel
theorem dX7_passesAll_83 : decode cX7_passesAll 83 = .ok (.aload_n 0, 1) := by decide +kernel
theorem dX7_passesAll_84 : decode cX7_passesAll 84 = .ok (.getfield 132, 3) := by decide +kernel
theorem dX7_passesAll_87 : decode cX7_passesAll 87 = .ok (.invokevirtual 167, 3) := by decide +kernel
theorem dX7_passesAll_90 : decode cX7_passesAll 90 = .ok (.putfield 132, 3) := by decide +kernel
theorem dX7_passesAll_93 : decode cX7_passesAll 93 = .ok (.aload_n 0, 1) := by decide +kernel
theorem dX7_passesAll_94 : decode cX7_passesAll 94 = .ok (.aload_n 0, 1) := by decide +kernel
theorem dX7_passesAll_95 : decode cX7_passesAll 95 = .ok (.aload_n 0, 1) := by decide +kernel
theorem dX7_passesAll_96 : decode cX7_passesAll 96 = .ok (.getfield 135, 3) := by decide +kernel
theorem dX7_passesAll_99 : decode cX7_passesAll 99 = .ok (.invokevirtual 167, 3) := by decide +kernel
theorem dX7_passesAll_102 : decode cX7_passesAll 102 = .ok (.putfield 135, 3) := by decide +kernel
theorem dX7_passesAll_105 : decode cX7_passesAll 105 = .ok (.aload_n 0, 1) := by decide +kernel
theorem dX7_passesAll_106 : decode cX7_passesAll 106 = .ok (.aload_n 0, 1) := by decide +kernel
theorem dX7_passesAll_107 : decode cX7_passesAll 107 = .ok (.aload_n 0, 1) := by decide +kernel
theorem dX7_passesAll_108 : decode cX7_passesAll 108 = .ok (.getfield 170, 3) := by decide +kernel
theorem dX7_passesAll_111 : decode cX7_passesAll 111 = .ok (.invokevirtual 167, 3) := by decide +kernel
theorem dX7_passesAll_114 : decode cX7_passesAll 114 = .ok (.putfield 170, 3) := by decide +kernel
theorem dX7_passesAll_117 : decode cX7_passesAll 117 = .ok (.aload_n 0, 1) := by decide +kernel
theorem dX7_passesAll_118 : decode cX7_passesAll 118 = .ok (.aload_n 0, 1) := by decide +kernel
theorem dX7_passesAll_119 : decode cX7_passesAll 119 = .ok (.aload_n 0, 1) := by decide +kernel
theorem dX7_passesAll_120 : decode cX7_passesAll 120 = .ok (.getfield 138, 3) := by decide +kernel
theorem dX7_passesAll_123 : decode cX7_passesAll 123 = .ok (.invokevirtual 167, 3) := by decide +kernel
theorem dX7_passesAll_126 : decode cX7_passesAll 126 = .ok (.putfield 138, 3) := by decide +kernel
theorem dX7_passesAll_129 : decode cX7_passesAll 129 = .ok (.return_, 1) := by decide +kernel
theorem dX7_image_0 : decode cX7_image 0 = .ok (.aload_n 0, 1) := by decide +kernel
theorem dX7_image_1 : decode cX7_image 1 = .ok (.iconst 1, 1) := by decide +kernel
theorem dX7_image_2 : decode cX7_image 2 = .ok (.putfield 173, 3) := by decide +kernel
theorem dX7_image_5 : decode cX7_image 5 = .ok (.aload_n 0, 1) := by decide +kernel
theorem dX7_image_6 : decode cX7_image 6 = .ok (.iconst 0, 1) := by decide +kernel
theorem dX7_image_7 : decode cX7_image 7 = .ok (.iconst 1, 1) := by decide +kernel
theorem dX7_image_8 : decode cX7_image 8 = .ok (.invokevirtual 149, 3) := by decide +kernel
theorem dX7_image_11 : decode cX7_image 11 = .ok (.aload_n 0, 1) := by decide +kernel
theorem dX7_image_12 : decode cX7_image 12 = .ok (.getfield 138, 3) := by decide +kernel
theorem dX7_image_15 : decode cX7_image 15 = .ok (.ireturn, 1) := by decide +kernel
theorem dX7_on_0 : decode cX7_on 0 = .ok (.aload_n 0, 1) := by decide +kernel
theorem dX7_on_1 : decode cX7_on 1 = .ok (.getfield 173, 3) := by decide +kernel
theorem dX7_on_4 : decode cX7_on 4 = .ok (.ifCond .ne 10, 3) := by decide +kernel
theorem dX7_on_7 : decode cX7_on 7 = .ok (.aload_n 0, 1) := by decide +kernel
theorem dX7_on_8 : decode cX7_on 8 = .ok (.bipush (-3), 2) := by decide +kernel
theorem dX7_on_10 : decode cX7_on 10 = .ok (.invokevirtual 76, 3) := by decide +kernel
theorem dX7_on_13 : decode cX7_on 13 = .ok (.ireturn, 1) := by decide +kernel
theorem dX7_on_14 : decode cX7_on 14 = .ok (.aload_n 0, 1) := by decide +kernel
theorem dX7_on_15 : decode cX7_on 15 = .ok (.iconst 0, 1) := by decide +kernel
theorem dX7_on_16 : decode cX7_on 16 = .ok (.iconst 0, 1) := by decide +kernel
theorem dX7_on_17 : decode cX7_on 17 = .ok (.invokevirtual 149, 3) := by decide +kernel
theorem dX7_on_20 : decode cX7_on 20 = .ok (.aload_n 0, 1) := by decide +kernel
theorem dX7_on_21 : decode cX7_on 21 = .ok (.getfield 138, 3) := by decide +kernel
theorem dX7_on_24 : decode cX7_on 24 = .ok (.ireturn, 1) := by decide +kernel
theorem dX7_swinging_0 : decode cX7_swinging 0 = .ok (.iload_n 1, 1) := by decide +kernel
theorem dX7_swinging_1 : decode cX7_swinging 1 = .ok (.bipush 10, 2) := by decide +kernel
theorem dX7_swinging_3 : decode cX7_swinging 3 = .ok (.idiv, 1) := by decide +kernel
theorem dX7_swinging_4 : decode cX7_swinging 4 = .ok (.iconst 2, 1) := by decide +kernel
theorem dX7_swinging_5 : decode cX7_swinging 5 = .ok (.irem, 1) := by decide +kernel
theorem dX7_swinging_6 : decode cX7_swinging 6 = .ok (.ifCond .ne 12, 3) := by decide +kernel
theorem dX7_swinging_9 : decode cX7_swinging 9 = .ok (.aload_n 0, 1) := by decide +kernel
theorem dX7_swinging_10 : decode cX7_swinging 10 = .ok (.getfield 13, 3) := by decide +kernel
theorem dX7_swinging_13 : decode cX7_swinging 13 = .ok (.iconst 3, 1) := by decide +kernel
theorem dX7_swinging_14 : decode cX7_swinging 14 = .ok (.iaload, 1) := by decide +kernel
theorem dX7_swinging_15 : decode cX7_swinging 15 = .ok (.goto 10, 3) := by decide +kernel
theorem dX7_swinging_18 : decode cX7_swinging 18 = .ok (.aload_n 0, 1) := by decide +kernel
theorem dX7_swinging_19 : decode cX7_swinging 19 = .ok (.getfield 13, 3) := by decide +kernel
theorem dX7_swinging_22 : decode cX7_swinging 22 = .ok (.iconst 3, 1) := by decide +kernel
theorem dX7_swinging_23 : decode cX7_swinging 23 = .ok (.iaload, 1) := by decide +kernel
theorem dX7_swinging_24 : decode cX7_swinging 24 = .ok (.ineg, 1) := by decide +kernel
theorem dX7_swinging_25 : decode cX7_swinging 25 = .ok (.ireturn, 1) := by decide +kernel
theorem dX7_cooling_0 : decode cX7_cooling 0 = .ok (.aload_n 0, 1) := by decide +kernel
theorem dX7_cooling_1 : decode cX7_cooling 1 = .ok (.getfield 13, 3) := by decide +kernel
theorem dX7_cooling_4 : decode cX7_cooling 4 = .ok (.iconst 3, 1) := by decide +kernel
theorem dX7_cooling_5 : decode cX7_cooling 5 = .ok (.iaload, 1) := by decide +kernel
theorem dX7_cooling_6 : decode cX7_cooling 6 = .ok (.invokestatic 176, 3) := by decide +kernel
theorem dX7_cooling_9 : decode cX7_cooling 9 = .ok (.iload_n 1, 1) := by decide +kernel
theorem dX7_cooling_10 : decode cX7_cooling 10 = .ok (.bipush 20, 2) := by decide +kernel
theorem dX7_cooling_12 : decode cX7_cooling 12 = .ok (.idiv, 1) := by decide +kernel
theorem dX7_cooling_13 : decode cX7_cooling 13 = .ok (.isub, 1) := by decide +kernel
theorem dX7_cooling_14 : decode cX7_cooling 14 = .ok (.istore_n 2, 1) := by decide +kernel
theorem dX7_cooling_15 : decode cX7_cooling 15 = .ok (.iload_n 2, 1) := by decide +kernel
theorem dX7_cooling_16 : decode cX7_cooling 16 = .ok (.ifCond .gt 7, 3) := by decide +kernel
theorem dX7_cooling_19 : decode cX7_cooling 19 = .ok (.iconst 0, 1) := by decide +kernel
theorem dX7_cooling_20 : decode cX7_cooling 20 = .ok (.goto 18, 3) := by decide +kernel
theorem dX7_cooling_23 : decode cX7_cooling 23 = .ok (.aload_n 0, 1) := by decide +kernel
theorem dX7_cooling_24 : decode cX7_cooling 24 = .ok (.getfield 13, 3) := by decide +kernel
theorem dX7_cooling_27 : decode cX7_cooling 27 = .ok (.iconst 3, 1) := by decide +kernel
theorem dX7_cooling_28 : decode cX7_cooling 28 = .ok (.iaload, 1) := by decide +kernel
theorem dX7_cooling_29 : decode cX7_cooling 29 = .ok (.ifCond .ge 8, 3) := by decide +kernel
theorem dX7_cooling_32 : decode cX7_cooling 32 = .ok (.iload_n 2, 1) := by decide +kernel
theorem dX7_cooling_33 : decode cX7_cooling 33 = .ok (.ineg, 1) := by decide +kernel
theorem dX7_cooling_34 : decode cX7_cooling 34 = .ok (.goto 4, 3) := by decide +kernel
theorem dX7_cooling_37 : decode cX7_cooling 37 = .ok (.iload_n 2, 1) := by decide +kernel
theorem dX7_cooling_38 : decode cX7_cooling 38 = .ok (.ireturn, 1) := by decide +kernel
theorem dX7_driftIn_0 : decode cX7_driftIn 0 = .ok (.aload_n 0, 1) := by decide +kernel
theorem dX7_driftIn_1 : decode cX7_driftIn 1 = .ok (.getfield 132, 3) := by decide +kernel
theorem dX7_driftIn_4 : decode cX7_driftIn 4 = .ok (.tableswitch 81 1 4 #[32, 38, 44, 63], 32) := by decide +kernel
theorem dX7_driftIn_36 : decode cX7_driftIn 36 = .ok (.aload_n 0, 1) := by decide +kernel
theorem dX7_driftIn_37 : decode cX7_driftIn 37 = .ok (.iload_n 1, 1) := by decide +kernel
theorem dX7_driftIn_38 : decode cX7_driftIn 38 = .ok (.invokevirtual 179, 3) := by decide +kernel
theorem dX7_driftIn_41 : decode cX7_driftIn 41 = .ok (.ireturn, 1) := by decide +kernel
theorem dX7_driftIn_42 : decode cX7_driftIn 42 = .ok (.aload_n 0, 1) := by decide +kernel
theorem dX7_driftIn_43 : decode cX7_driftIn 43 = .ok (.iload_n 1, 1) := by decide +kernel
theorem dX7_driftIn_44 : decode cX7_driftIn 44 = .ok (.invokevirtual 182, 3) := by decide +kernel
theorem dX7_driftIn_47 : decode cX7_driftIn 47 = .ok (.ireturn, 1) := by decide +kernel
theorem dX7_driftIn_48 : decode cX7_driftIn 48 = .ok (.iload_n 1, 1) := by decide +kernel
theorem dX7_driftIn_49 : decode cX7_driftIn 49 = .ok (.iconst 3, 1) := by decide +kernel
theorem dX7_driftIn_50 : decode cX7_driftIn 50 = .ok (.irem, 1) := by decide +kernel
theorem dX7_driftIn_51 : decode cX7_driftIn 51 = .ok (.ifCond .ne 14, 3) := by decide +kernel
theorem dX7_driftIn_54 : decode cX7_driftIn 54 = .ok (.iconst 3, 1) := by decide +kernel
theorem dX7_driftIn_55 : decode cX7_driftIn 55 = .ok (.aload_n 0, 1) := by decide +kernel
theorem dX7_driftIn_56 : decode cX7_driftIn 56 = .ok (.getfield 13, 3) := by decide +kernel
theorem dX7_driftIn_59 : decode cX7_driftIn 59 = .ok (.iconst 3, 1) := by decide +kernel
theorem dX7_driftIn_60 : decode cX7_driftIn 60 = .ok (.iaload, 1) := by decide +kernel
theorem dX7_driftIn_61 : decode cX7_driftIn 61 = .ok (.imul, 1) := by decide +kernel
theorem dX7_driftIn_62 : decode cX7_driftIn 62 = .ok (.goto 4, 3) := by decide +kernel
theorem dX7_driftIn_65 : decode cX7_driftIn 65 = .ok (.iconst 0, 1) := by decide +kernel
theorem dX7_driftIn_66 : decode cX7_driftIn 66 = .ok (.ireturn, 1) := by decide +kernel
theorem dX7_driftIn_67 : decode cX7_driftIn 67 = .ok (.aload_n 0, 1) := by decide +kernel
theorem dX7_driftIn_68 : decode cX7_driftIn 68 = .ok (.iload_n 1, 1) := by decide +kernel
theorem dX7_driftIn_69 : decode cX7_driftIn 69 = .ok (.invokevirtual 179, 3) := by decide +kernel
theorem dX7_driftIn_72 : decode cX7_driftIn 72 = .ok (.iload_n 1, 1) := by decide +kernel
theorem dX7_driftIn_73 : decode cX7_driftIn 73 = .ok (.iconst 2, 1) := by decide +kernel
theorem dX7_driftIn_74 : decode cX7_driftIn 74 = .ok (.irem, 1) := by decide +kernel
theorem dX7_driftIn_75 : decode cX7_driftIn 75 = .ok (.ifCond .ne 7, 3) := by decide +kernel
theorem dX7_driftIn_78 : decode cX7_driftIn 78 = .ok (.iconst 1, 1) := by decide +kernel
theorem dX7_driftIn_79 : decode cX7_driftIn 79 = .ok (.goto 4, 3) := by decide +kernel
theorem dX7_driftIn_82 : decode cX7_driftIn 82 = .ok (.iconst 0, 1) := by decide +kernel
theorem dX7_driftIn_83 : decode cX7_driftIn 83 = .ok (.iadd, 1) := by decide +kernel
theorem dX7_driftIn_84 : decode cX7_driftIn 84 = .ok (.ireturn, 1) := by decide +kernel
theorem dX7_driftIn_85 : decode cX7_driftIn 85 = .ok (.aload_n 0, 1) := by decide +kernel
theorem dX7_driftIn_86 : decode cX7_driftIn 86 = .ok (.getfield 13, 3) := by decide +kernel
theorem dX7_driftIn_89 : decode cX7_driftIn 89 = .ok (.iconst 3, 1) := by decide +kernel
theorem dX7_driftIn_90 : decode cX7_driftIn 90 = .ok (.iaload, 1) := by decide +kernel
theorem dX7_driftIn_91 : decode cX7_driftIn 91 = .ok (.ireturn, 1) := by decide +kernel
theorem dX7_botherOf_0 : decode cX7_botherOf 0 = .ok (.iload_n 2, 1) := by decide +kernel
theorem dX7_botherOf_1 : decode cX7_botherOf 1 = .ok (.aload_n 0, 1) := by decide +kernel
theorem dX7_botherOf_2 : decode cX7_botherOf 2 = .ok (.getfield 19, 3) := by decide +kernel
theorem dX7_botherOf_5 : decode cX7_botherOf 5 = .ok (.iload_n 1, 1) := by decide +kernel
theorem dX7_botherOf_6 : decode cX7_botherOf 6 = .ok (.iaload, 1) := by decide +kernel
theorem dX7_botherOf_7 : decode cX7_botherOf 7 = .ok (.imul, 1) := by decide +kernel
theorem dX7_botherOf_8 : decode cX7_botherOf 8 = .ok (.istore_n 3, 1) := by decide +kernel
theorem dX7_botherOf_9 : decode cX7_botherOf 9 = .ok (.aload_n 0, 1) := by decide +kernel
theorem dX7_botherOf_10 : decode cX7_botherOf 10 = .ok (.getfield 16, 3) := by decide +kernel
theorem dX7_botherOf_13 : decode cX7_botherOf 13 = .ok (.iload_n 1, 1) := by decide +kernel
theorem dX7_botherOf_14 : decode cX7_botherOf 14 = .ok (.iaload, 1) := by decide +kernel
theorem dX7_botherOf_15 : decode cX7_botherOf 15 = .ok (.tableswitch 127 1 4 #[29, 59, 63, 83], 29) := by decide +kernel
theorem dX7_botherOf_44 : decode cX7_botherOf 44 = .ok (.iload_n 2, 1) := by decide +kernel
theorem dX7_botherOf_45 : decode cX7_botherOf 45 = .ok (.aload_n 0, 1) := by decide +kernel
theorem dX7_botherOf_46 : decode cX7_botherOf 46 = .ok (.getfield 22, 3) := by decide +kernel
theorem dX7_botherOf_49 : decode cX7_botherOf 49 = .ok (.iload_n 1, 1) := by decide +kernel
theorem dX7_botherOf_50 : decode cX7_botherOf 50 = .ok (.iaload, 1) := by decide +kernel
theorem dX7_botherOf_51 : decode cX7_botherOf 51 = .ok (.if_icmp .ge 7, 3) := by decide +kernel
theorem dX7_botherOf_54 : decode cX7_botherOf 54 = .ok (.iconst 0, 1) := by decide +kernel
theorem dX7_botherOf_55 : decode cX7_botherOf 55 = .ok (.goto 18, 3) := by decide +kernel
theorem dX7_botherOf_58 : decode cX7_botherOf 58 = .ok (.iload_n 2, 1) := by decide +kernel
theorem dX7_botherOf_59 : decode cX7_botherOf 59 = .ok (.aload_n 0, 1) := by decide +kernel
theorem dX7_botherOf_60 : decode cX7_botherOf 60 = .ok (.getfield 22, 3) := by decide +kernel
theorem dX7_botherOf_63 : decode cX7_botherOf 63 = .ok (.iload_n 1, 1) := by decide +kernel
theorem dX7_botherOf_64 : decode cX7_botherOf 64 = .ok (.iaload, 1) := by decide +kernel
theorem dX7_botherOf_65 : decode cX7_botherOf 65 = .ok (.isub, 1) := by decide +kernel
theorem dX7_botherOf_66 : decode cX7_botherOf 66 = .ok (.aload_n 0, 1) := by decide +kernel
theorem dX7_botherOf_67 : decode cX7_botherOf 67 = .ok (.getfield 19, 3) := by decide +kernel
theorem dX7_botherOf_70 : decode cX7_botherOf 70 = .ok (.iload_n 1, 1) := by decide +kernel
theorem dX7_botherOf_71 : decode cX7_botherOf 71 = .ok (.iaload, 1) := by decide +kernel
theorem dX7_botherOf_72 : decode cX7_botherOf 72 = .ok (.imul, 1) := by decide +kernel
theorem dX7_botherOf_73 : decode cX7_botherOf 73 = .ok (.ireturn, 1) := by decide +kernel
theorem dX7_botherOf_74 : decode cX7_botherOf 74 = .ok (.iconst 2, 1) := by decide +kernel
theorem dX7_botherOf_75 : decode cX7_botherOf 75 = .ok (.iload_n 3, 1) := by decide +kernel
theorem dX7_botherOf_76 : decode cX7_botherOf 76 = .ok (.imul, 1) := by decide +kernel
theorem dX7_botherOf_77 : decode cX7_botherOf 77 = .ok (.ireturn, 1) := by decide +kernel
theorem dX7_botherOf_78 : decode cX7_botherOf 78 = .ok (.iconst 2, 1) := by decide +kernel
theorem dX7_botherOf_79 : decode cX7_botherOf 79 = .ok (.iload_n 3, 1) := by decide +kernel
theorem dX7_botherOf_80 : decode cX7_botherOf 80 = .ok (.imul, 1) := by decide +kernel
theorem dX7_botherOf_81 : decode cX7_botherOf 81 = .ok (.iload_n 2, 1) := by decide +kernel
theorem dX7_botherOf_82 : decode cX7_botherOf 82 = .ok (.iconst 2, 1) := by decide +kernel
theorem dX7_botherOf_83 : decode cX7_botherOf 83 = .ok (.if_icmp .le 12, 3) := by decide +kernel
theorem dX7_botherOf_86 : decode cX7_botherOf 86 = .ok (.aload_n 0, 1) := by decide +kernel
theorem dX7_botherOf_87 : decode cX7_botherOf 87 = .ok (.getfield 22, 3) := by decide +kernel
theorem dX7_botherOf_90 : decode cX7_botherOf 90 = .ok (.iload_n 1, 1) := by decide +kernel
theorem dX7_botherOf_91 : decode cX7_botherOf 91 = .ok (.iaload, 1) := by decide +kernel
theorem dX7_botherOf_92 : decode cX7_botherOf 92 = .ok (.goto 4, 3) := by decide +kernel
theorem dX7_botherOf_95 : decode cX7_botherOf 95 = .ok (.iconst 0, 1) := by decide +kernel
theorem dX7_botherOf_96 : decode cX7_botherOf 96 = .ok (.iadd, 1) := by decide +kernel
theorem dX7_botherOf_97 : decode cX7_botherOf 97 = .ok (.ireturn, 1) := by decide +kernel
theorem dX7_botherOf_98 : decode cX7_botherOf 98 = .ok (.iload_n 2, 1) := by decide +kernel
theorem dX7_botherOf_99 : decode cX7_botherOf 99 = .ok (.bipush 20, 2) := by decide +kernel
theorem dX7_botherOf_101 : decode cX7_botherOf 101 = .ok (.if_icmp .lt 7, 3) := by decide +kernel
theorem dX7_botherOf_104 : decode cX7_botherOf 104 = .ok (.iload_n 3, 1) := by decide +kernel
theorem dX7_botherOf_105 : decode cX7_botherOf 105 = .ok (.goto 36, 3) := by decide +kernel
theorem dX7_botherOf_108 : decode cX7_botherOf 108 = .ok (.iload_n 2, 1) := by decide +kernel
theorem dX7_botherOf_109 : decode cX7_botherOf 109 = .ok (.iconst 2, 1) := by decide +kernel
theorem dX7_botherOf_110 : decode cX7_botherOf 110 = .ok (.aload_n 0, 1) := by decide +kernel
theorem dX7_botherOf_111 : decode cX7_botherOf 111 = .ok (.getfield 22, 3) := by decide +kernel
theorem dX7_botherOf_114 : decode cX7_botherOf 114 = .ok (.iload_n 1, 1) := by decide +kernel
theorem dX7_botherOf_115 : decode cX7_botherOf 115 = .ok (.iaload, 1) := by decide +kernel
theorem dX7_botherOf_116 : decode cX7_botherOf 116 = .ok (.imul, 1) := by decide +kernel
theorem dX7_botherOf_117 : decode cX7_botherOf 117 = .ok (.if_icmp .ge 7, 3) := by decide +kernel
theorem dX7_botherOf_120 : decode cX7_botherOf 120 = .ok (.iconst 0, 1) := by decide +kernel
theorem dX7_botherOf_121 : decode cX7_botherOf 121 = .ok (.goto 20, 3) := by decide +kernel
theorem dX7_botherOf_124 : decode cX7_botherOf 124 = .ok (.iload_n 2, 1) := by decide +kernel
theorem dX7_botherOf_125 : decode cX7_botherOf 125 = .ok (.iconst 2, 1) := by decide +kernel
theorem dX7_botherOf_126 : decode cX7_botherOf 126 = .ok (.aload_n 0, 1) := by decide +kernel
theorem dX7_botherOf_127 : decode cX7_botherOf 127 = .ok (.getfield 22, 3) := by decide +kernel
theorem dX7_botherOf_130 : decode cX7_botherOf 130 = .ok (.iload_n 1, 1) := by decide +kernel
theorem dX7_botherOf_131 : decode cX7_botherOf 131 = .ok (.iaload, 1) := by decide +kernel
theorem dX7_botherOf_132 : decode cX7_botherOf 132 = .ok (.imul, 1) := by decide +kernel
theorem dX7_botherOf_133 : decode cX7_botherOf 133 = .ok (.isub, 1) := by decide +kernel
theorem dX7_botherOf_134 : decode cX7_botherOf 134 = .ok (.aload_n 0, 1) := by decide +kernel
theorem dX7_botherOf_135 : decode cX7_botherOf 135 = .ok (.getfield 19, 3) := by decide +kernel
theorem dX7_botherOf_138 : decode cX7_botherOf 138 = .ok (.iload_n 1, 1) := by decide +kernel
theorem dX7_botherOf_139 : decode cX7_botherOf 139 = .ok (.iaload, 1) := by decide +kernel
theorem dX7_botherOf_140 : decode cX7_botherOf 140 = .ok (.imul, 1) := by decide +kernel
theorem dX7_botherOf_141 : decode cX7_botherOf 141 = .ok (.ireturn, 1) := by decide +kernel
theorem dX7_botherOf_142 : decode cX7_botherOf 142 = .ok (.iload_n 3, 1) := by decide +kernel
theorem dX7_botherOf_143 : decode cX7_botherOf 143 = .ok (.ireturn, 1) := by decide +kernel
theorem dX7_placeOf_0 : decode cX7_placeOf 0 = .ok (.aload_n 0, 1) := by decide +kernel
theorem dX7_placeOf_1 : decode cX7_placeOf 1 = .ok (.getfield 13, 3) := by decide +kernel
theorem dX7_placeOf_4 : decode cX7_placeOf 4 = .ok (.iconst 1, 1) := by decide +kernel
theorem dX7_placeOf_5 : decode cX7_placeOf 5 = .ok (.iload_n 1, 1) := by decide +kernel
theorem dX7_placeOf_6 : decode cX7_placeOf 6 = .ok (.iadd, 1) := by decide +kernel
theorem dX7_placeOf_7 : decode cX7_placeOf 7 = .ok (.iaload, 1) := by decide +kernel
theorem dX7_placeOf_8 : decode cX7_placeOf 8 = .ok (.ireturn, 1) := by decide +kernel
theorem dX7_isUp_0 : decode cX7_isUp 0 = .ok (.aload_n 0, 1) := by decide +kernel
theorem dX7_isUp_1 : decode cX7_isUp 1 = .ok (.getfield 13, 3) := by decide +kernel
theorem dX7_isUp_4 : decode cX7_isUp 4 = .ok (.iconst 0, 1) := by decide +kernel
theorem dX7_isUp_5 : decode cX7_isUp 5 = .ok (.iaload, 1) := by decide +kernel
theorem dX7_isUp_6 : decode cX7_isUp 6 = .ok (.aload_n 0, 1) := by decide +kernel
theorem dX7_isUp_7 : decode cX7_isUp 7 = .ok (.aload_n 0, 1) := by decide +kernel
theorem dX7_isUp_8 : decode cX7_isUp 8 = .ok (.getfield 25, 3) := by decide +kernel
theorem dX7_isUp_11 : decode cX7_isUp 11 = .ok (.aload_n 0, 1) := by decide +kernel
theorem dX7_isUp_12 : decode cX7_isUp 12 = .ok (.getfield 170, 3) := by decide +kernel
theorem dX7_isUp_15 : decode cX7_isUp 15 = .ok (.iaload, 1) := by decide +kernel
theorem dX7_isUp_16 : decode cX7_isUp 16 = .ok (.invokevirtual 185, 3) := by decide +kernel
theorem dX7_isUp_19 : decode cX7_isUp 19 = .ok (.isub, 1) := by decide +kernel
theorem dX7_isUp_20 : decode cX7_isUp 20 = .ok (.invokestatic 176, 3) := by decide +kernel
theorem dX7_isUp_23 : decode cX7_isUp 23 = .ok (.istore_n 1, 1) := by decide +kernel
theorem dX7_isUp_24 : decode cX7_isUp 24 = .ok (.aload_n 0, 1) := by decide +kernel
theorem dX7_isUp_25 : decode cX7_isUp 25 = .ok (.getfield 135, 3) := by decide +kernel
theorem dX7_isUp_28 : decode cX7_isUp 28 = .ok (.tableswitch 72 2 5 #[32, 72, 52, 70], 32) := by decide +kernel
theorem dX7_isUp_60 : decode cX7_isUp 60 = .ok (.aload_n 0, 1) := by decide +kernel
theorem dX7_isUp_61 : decode cX7_isUp 61 = .ok (.getfield 138, 3) := by decide +kernel
theorem dX7_isUp_64 : decode cX7_isUp 64 = .ok (.aload_n 0, 1) := by decide +kernel
theorem dX7_isUp_65 : decode cX7_isUp 65 = .ok (.getfield 13, 3) := by decide +kernel
theorem dX7_isUp_68 : decode cX7_isUp 68 = .ok (.iconst 4, 1) := by decide +kernel
theorem dX7_isUp_69 : decode cX7_isUp 69 = .ok (.iaload, 1) := by decide +kernel
theorem dX7_isUp_70 : decode cX7_isUp 70 = .ok (.irem, 1) := by decide +kernel
theorem dX7_isUp_71 : decode cX7_isUp 71 = .ok (.ifCond .ne 7, 3) := by decide +kernel
theorem dX7_isUp_74 : decode cX7_isUp 74 = .ok (.iconst 1, 1) := by decide +kernel
theorem dX7_isUp_75 : decode cX7_isUp 75 = .ok (.goto 4, 3) := by decide +kernel
theorem dX7_isUp_78 : decode cX7_isUp 78 = .ok (.iconst 0, 1) := by decide +kernel
theorem dX7_isUp_79 : decode cX7_isUp 79 = .ok (.ireturn, 1) := by decide +kernel
theorem dX7_isUp_80 : decode cX7_isUp 80 = .ok (.iload_n 1, 1) := by decide +kernel
theorem dX7_isUp_81 : decode cX7_isUp 81 = .ok (.iconst 2, 1) := by decide +kernel
theorem dX7_isUp_82 : decode cX7_isUp 82 = .ok (.aload_n 0, 1) := by decide +kernel
theorem dX7_isUp_83 : decode cX7_isUp 83 = .ok (.getfield 13, 3) := by decide +kernel
theorem dX7_isUp_86 : decode cX7_isUp 86 = .ok (.iconst 4, 1) := by decide +kernel
theorem dX7_isUp_87 : decode cX7_isUp 87 = .ok (.iaload, 1) := by decide +kernel
theorem dX7_isUp_88 : decode cX7_isUp 88 = .ok (.imul, 1) := by decide +kernel
theorem dX7_isUp_89 : decode cX7_isUp 89 = .ok (.if_icmp .le 7, 3) := by decide +kernel
theorem dX7_isUp_92 : decode cX7_isUp 92 = .ok (.iconst 1, 1) := by decide +kernel
theorem dX7_isUp_93 : decode cX7_isUp 93 = .ok (.goto 4, 3) := by decide +kernel
theorem dX7_isUp_96 : decode cX7_isUp 96 = .ok (.iconst 0, 1) := by decide +kernel
theorem dX7_isUp_97 : decode cX7_isUp 97 = .ok (.ireturn, 1) := by decide +kernel
theorem dX7_isUp_98 : decode cX7_isUp 98 = .ok (.iconst 0, 1) := by decide +kernel
theorem dX7_isUp_99 : decode cX7_isUp 99 = .ok (.ireturn, 1) := by decide +kernel
theorem dX7_isUp_100 : decode cX7_isUp 100 = .ok (.iload_n 1, 1) := by decide +kernel
theorem dX7_isUp_101 : decode cX7_isUp 101 = .ok (.aload_n 0, 1) := by decide +kernel
theorem dX7_isUp_102 : decode cX7_isUp 102 = .ok (.getfield 13, 3) := by decide +kernel
theorem dX7_isUp_105 : decode cX7_isUp 105 = .ok (.iconst 4, 1) := by decide +kernel
theorem dX7_isUp_106 : decode cX7_isUp 106 = .ok (.iaload, 1) := by decide +kernel
theorem dX7_isUp_107 : decode cX7_isUp 107 = .ok (.if_icmp .le 7, 3) := by decide +kernel
theorem dX7_isUp_110 : decode cX7_isUp 110 = .ok (.iconst 1, 1) := by decide +kernel
theorem dX7_isUp_111 : decode cX7_isUp 111 = .ok (.goto 4, 3) := by decide +kernel
theorem dX7_isUp_114 : decode cX7_isUp 114 = .ok (.iconst 0, 1) := by decide +kernel
theorem dX7_isUp_115 : decode cX7_isUp 115 = .ok (.ireturn, 1) := by decide +kernel
theorem dX7_shouldBe_0 : decode cX7_shouldBe 0 = .ok (.aload_n 0, 1) := by decide +kernel
theorem dX7_shouldBe_1 : decode cX7_shouldBe 1 = .ok (.aload_n 0, 1) := by decide +kernel
theorem dX7_shouldBe_2 : decode cX7_shouldBe 2 = .ok (.getfield 25, 3) := by decide +kernel
theorem dX7_shouldBe_5 : decode cX7_shouldBe 5 = .ok (.aload_n 0, 1) := by decide +kernel
theorem dX7_shouldBe_6 : decode cX7_shouldBe 6 = .ok (.getfield 170, 3) := by decide +kernel
theorem dX7_shouldBe_9 : decode cX7_shouldBe 9 = .ok (.iaload, 1) := by decide +kernel
theorem dX7_shouldBe_10 : decode cX7_shouldBe 10 = .ok (.invokevirtual 185, 3) := by decide +kernel
theorem dX7_shouldBe_13 : decode cX7_shouldBe 13 = .ok (.istore_n 1, 1) := by decide +kernel
theorem dX7_shouldBe_14 : decode cX7_shouldBe 14 = .ok (.aload_n 0, 1) := by decide +kernel
theorem dX7_shouldBe_15 : decode cX7_shouldBe 15 = .ok (.aload_n 0, 1) := by decide +kernel
theorem dX7_shouldBe_16 : decode cX7_shouldBe 16 = .ok (.getfield 138, 3) := by decide +kernel
theorem dX7_shouldBe_19 : decode cX7_shouldBe 19 = .ok (.invokevirtual 188, 3) := by decide +kernel
theorem dX7_shouldBe_22 : decode cX7_shouldBe 22 = .ok (.istore_n 2, 1) := by decide +kernel
theorem dX7_shouldBe_23 : decode cX7_shouldBe 23 = .ok (.aload_n 0, 1) := by decide +kernel
theorem dX7_shouldBe_24 : decode cX7_shouldBe 24 = .ok (.getfield 135, 3) := by decide +kernel
theorem dX7_shouldBe_27 : decode cX7_shouldBe 27 = .ok (.iconst 3, 1) := by decide +kernel
theorem dX7_shouldBe_28 : decode cX7_shouldBe 28 = .ok (.if_icmp .ne 19, 3) := by decide +kernel
theorem dX7_shouldBe_31 : decode cX7_shouldBe 31 = .ok (.aload_n 0, 1) := by decide +kernel
theorem dX7_shouldBe_32 : decode cX7_shouldBe 32 = .ok (.getfield 13, 3) := by decide +kernel
theorem dX7_shouldBe_35 : decode cX7_shouldBe 35 = .ok (.iconst 1, 1) := by decide +kernel
theorem dX7_shouldBe_36 : decode cX7_shouldBe 36 = .ok (.iaload, 1) := by decide +kernel
theorem dX7_shouldBe_37 : decode cX7_shouldBe 37 = .ok (.aload_n 0, 1) := by decide +kernel
theorem dX7_shouldBe_38 : decode cX7_shouldBe 38 = .ok (.getfield 13, 3) := by decide +kernel
theorem dX7_shouldBe_41 : decode cX7_shouldBe 41 = .ok (.iconst 2, 1) := by decide +kernel
theorem dX7_shouldBe_42 : decode cX7_shouldBe 42 = .ok (.iaload, 1) := by decide +kernel
theorem dX7_shouldBe_43 : decode cX7_shouldBe 43 = .ok (.iadd, 1) := by decide +kernel
theorem dX7_shouldBe_44 : decode cX7_shouldBe 44 = .ok (.iconst 2, 1) := by decide +kernel
theorem dX7_shouldBe_45 : decode cX7_shouldBe 45 = .ok (.idiv, 1) := by decide +kernel
theorem dX7_shouldBe_46 : decode cX7_shouldBe 46 = .ok (.ireturn, 1) := by decide +kernel
theorem dX7_shouldBe_47 : decode cX7_shouldBe 47 = .ok (.aload_n 0, 1) := by decide +kernel
theorem dX7_shouldBe_48 : decode cX7_shouldBe 48 = .ok (.getfield 135, 3) := by decide +kernel
theorem dX7_shouldBe_51 : decode cX7_shouldBe 51 = .ok (.iconst 1, 1) := by decide +kernel
theorem dX7_shouldBe_52 : decode cX7_shouldBe 52 = .ok (.if_icmp .eq 13, 3) := by decide +kernel
theorem dX7_shouldBe_55 : decode cX7_shouldBe 55 = .ok (.aload_n 0, 1) := by decide +kernel
theorem dX7_shouldBe_56 : decode cX7_shouldBe 56 = .ok (.getfield 135, 3) := by decide +kernel
theorem dX7_shouldBe_59 : decode cX7_shouldBe 59 = .ok (.iconst 4, 1) := by decide +kernel
theorem dX7_shouldBe_60 : decode cX7_shouldBe 60 = .ok (.if_icmp .eq 5, 3) := by decide +kernel
theorem dX7_shouldBe_63 : decode cX7_shouldBe 63 = .ok (.iload_n 1, 1) := by decide +kernel
theorem dX7_shouldBe_64 : decode cX7_shouldBe 64 = .ok (.ireturn, 1) := by decide +kernel
theorem dX7_shouldBe_65 : decode cX7_shouldBe 65 = .ok (.iload_n 2, 1) := by decide +kernel
theorem dX7_shouldBe_66 : decode cX7_shouldBe 66 = .ok (.ifCond .le 14, 3) := by decide +kernel
theorem dX7_shouldBe_69 : decode cX7_shouldBe 69 = .ok (.iload_n 1, 1) := by decide +kernel
theorem dX7_shouldBe_70 : decode cX7_shouldBe 70 = .ok (.aload_n 0, 1) := by decide +kernel
theorem dX7_shouldBe_71 : decode cX7_shouldBe 71 = .ok (.getfield 13, 3) := by decide +kernel
theorem dX7_shouldBe_74 : decode cX7_shouldBe 74 = .ok (.iconst 5, 1) := by decide +kernel
theorem dX7_shouldBe_75 : decode cX7_shouldBe 75 = .ok (.iaload, 1) := by decide +kernel
theorem dX7_shouldBe_76 : decode cX7_shouldBe 76 = .ok (.isub, 1) := by decide +kernel
theorem dX7_shouldBe_77 : decode cX7_shouldBe 77 = .ok (.goto 19, 3) := by decide +kernel
theorem dX7_shouldBe_80 : decode cX7_shouldBe 80 = .ok (.iload_n 2, 1) := by decide +kernel
theorem dX7_shouldBe_81 : decode cX7_shouldBe 81 = .ok (.ifCond .ge 14, 3) := by decide +kernel
theorem dX7_shouldBe_84 : decode cX7_shouldBe 84 = .ok (.iload_n 1, 1) := by decide +kernel
theorem dX7_shouldBe_85 : decode cX7_shouldBe 85 = .ok (.aload_n 0, 1) := by decide +kernel
theorem dX7_shouldBe_86 : decode cX7_shouldBe 86 = .ok (.getfield 13, 3) := by decide +kernel
theorem dX7_shouldBe_89 : decode cX7_shouldBe 89 = .ok (.iconst 5, 1) := by decide +kernel
theorem dX7_shouldBe_90 : decode cX7_shouldBe 90 = .ok (.iaload, 1) := by decide +kernel
theorem dX7_shouldBe_91 : decode cX7_shouldBe 91 = .ok (.iadd, 1) := by decide +kernel
theorem dX7_shouldBe_92 : decode cX7_shouldBe 92 = .ok (.goto 4, 3) := by decide +kernel
theorem dX7_shouldBe_95 : decode cX7_shouldBe 95 = .ok (.iload_n 1, 1) := by decide +kernel
theorem dX7_shouldBe_96 : decode cX7_shouldBe 96 = .ok (.ireturn, 1) := by decide +kernel
theorem dX7_turnsTo_0 : decode cX7_turnsTo 0 = .ok (.iload_n 1, 1) := by decide +kernel
theorem dX7_turnsTo_1 : decode cX7_turnsTo 1 = .ok (.aload_n 0, 1) := by decide +kernel
theorem dX7_turnsTo_2 : decode cX7_turnsTo 2 = .ok (.getfield 13, 3) := by decide +kernel
theorem dX7_turnsTo_5 : decode cX7_turnsTo 5 = .ok (.iconst 0, 1) := by decide +kernel
theorem dX7_turnsTo_6 : decode cX7_turnsTo 6 = .ok (.iaload, 1) := by decide +kernel
theorem dX7_turnsTo_7 : decode cX7_turnsTo 7 = .ok (.isub, 1) := by decide +kernel
theorem dX7_turnsTo_8 : decode cX7_turnsTo 8 = .ok (.invokestatic 176, 3) := by decide +kernel
theorem dX7_turnsTo_11 : decode cX7_turnsTo 11 = .ok (.istore_n 3, 1) := by decide +kernel
theorem dX7_turnsTo_12 : decode cX7_turnsTo 12 = .ok (.iload_n 3, 1) := by decide +kernel
theorem dX7_turnsTo_13 : decode cX7_turnsTo 13 = .ok (.iload_n 2, 1) := by decide +kernel
theorem dX7_turnsTo_14 : decode cX7_turnsTo 14 = .ok (.idiv, 1) := by decide +kernel
theorem dX7_turnsTo_15 : decode cX7_turnsTo 15 = .ok (.iconst 2, 1) := by decide +kernel
theorem dX7_turnsTo_16 : decode cX7_turnsTo 16 = .ok (.iload_n 3, 1) := by decide +kernel
theorem dX7_turnsTo_17 : decode cX7_turnsTo 17 = .ok (.iload_n 2, 1) := by decide +kernel
theorem dX7_turnsTo_18 : decode cX7_turnsTo 18 = .ok (.irem, 1) := by decide +kernel
theorem dX7_turnsTo_19 : decode cX7_turnsTo 19 = .ok (.imul, 1) := by decide +kernel
theorem dX7_turnsTo_20 : decode cX7_turnsTo 20 = .ok (.iload_n 2, 1) := by decide +kernel
theorem dX7_turnsTo_21 : decode cX7_turnsTo 21 = .ok (.if_icmp .le 7, 3) := by decide +kernel
theorem dX7_turnsTo_24 : decode cX7_turnsTo 24 = .ok (.iconst 1, 1) := by decide +kernel
theorem dX7_turnsTo_25 : decode cX7_turnsTo 25 = .ok (.goto 4, 3) := by decide +kernel
theorem dX7_turnsTo_28 : decode cX7_turnsTo 28 = .ok (.iconst 0, 1) := by decide +kernel
theorem dX7_turnsTo_29 : decode cX7_turnsTo 29 = .ok (.iadd, 1) := by decide +kernel
theorem dX7_turnsTo_30 : decode cX7_turnsTo 30 = .ok (.istore 4, 2) := by decide +kernel
theorem dX7_turnsTo_32 : decode cX7_turnsTo 32 = .ok (.aload_n 0, 1) := by decide +kernel
theorem dX7_turnsTo_33 : decode cX7_turnsTo 33 = .ok (.getfield 13, 3) := by decide +kernel
theorem dX7_turnsTo_36 : decode cX7_turnsTo 36 = .ok (.iconst 0, 1) := by decide +kernel
theorem dX7_turnsTo_37 : decode cX7_turnsTo 37 = .ok (.dup2, 1) := by decide +kernel
theorem dX7_turnsTo_38 : decode cX7_turnsTo 38 = .ok (.iaload, 1) := by decide +kernel
theorem dX7_turnsTo_39 : decode cX7_turnsTo 39 = .ok (.iload_n 1, 1) := by decide +kernel
theorem dX7_turnsTo_40 : decode cX7_turnsTo 40 = .ok (.aload_n 0, 1) := by decide +kernel
theorem dX7_turnsTo_41 : decode cX7_turnsTo 41 = .ok (.getfield 13, 3) := by decide +kernel
theorem dX7_turnsTo_44 : decode cX7_turnsTo 44 = .ok (.iconst 0, 1) := by decide +kernel
theorem dX7_turnsTo_45 : decode cX7_turnsTo 45 = .ok (.iaload, 1) := by decide +kernel
theorem dX7_turnsTo_46 : decode cX7_turnsTo 46 = .ok (.if_icmp .ge 11, 3) := by decide +kernel
theorem dX7_turnsTo_49 : decode cX7_turnsTo 49 = .ok (.iload 4, 2) := by decide +kernel
theorem dX7_turnsTo_51 : decode cX7_turnsTo 51 = .ok (.ineg, 1) := by decide +kernel
theorem dX7_turnsTo_52 : decode cX7_turnsTo 52 = .ok (.iload_n 2, 1) := by decide +kernel
theorem dX7_turnsTo_53 : decode cX7_turnsTo 53 = .ok (.imul, 1) := by decide +kernel
theorem dX7_turnsTo_54 : decode cX7_turnsTo 54 = .ok (.goto 7, 3) := by decide +kernel
theorem dX7_turnsTo_57 : decode cX7_turnsTo 57 = .ok (.iload 4, 2) := by decide +kernel
theorem dX7_turnsTo_59 : decode cX7_turnsTo 59 = .ok (.iload_n 2, 1) := by decide +kernel
theorem dX7_turnsTo_60 : decode cX7_turnsTo 60 = .ok (.imul, 1) := by decide +kernel
theorem dX7_turnsTo_61 : decode cX7_turnsTo 61 = .ok (.iadd, 1) := by decide +kernel
theorem dX7_turnsTo_62 : decode cX7_turnsTo 62 = .ok (.iastore, 1) := by decide +kernel
theorem dX7_turnsTo_63 : decode cX7_turnsTo 63 = .ok (.return_, 1) := by decide +kernel
theorem dX7_begins_0 : decode cX7_begins 0 = .ok (.iconst 0, 1) := by decide +kernel
theorem dX7_begins_1 : decode cX7_begins 1 = .ok (.istore_n 1, 1) := by decide +kernel
theorem dX7_begins_2 : decode cX7_begins 2 = .ok (.iload_n 1, 1) := by decide +kernel
theorem dX7_begins_3 : decode cX7_begins 3 = .ok (.iconst 5, 1) := by decide +kernel
theorem dX7_begins_4 : decode cX7_begins 4 = .ok (.if_icmp .ge 23, 3) := by decide +kernel
theorem dX7_begins_7 : decode cX7_begins 7 = .ok (.aload_n 0, 1) := by decide +kernel
theorem dX7_begins_8 : decode cX7_begins 8 = .ok (.getfield 49, 3) := by decide +kernel
theorem dX7_begins_11 : decode cX7_begins 11 = .ok (.iload_n 1, 1) := by decide +kernel
theorem dX7_begins_12 : decode cX7_begins 12 = .ok (.iconst 0, 1) := by decide +kernel
theorem dX7_begins_13 : decode cX7_begins 13 = .ok (.iastore, 1) := by decide +kernel
theorem dX7_begins_14 : decode cX7_begins 14 = .ok (.aload_n 0, 1) := by decide +kernel
theorem dX7_begins_15 : decode cX7_begins 15 = .ok (.getfield 52, 3) := by decide +kernel
theorem dX7_begins_18 : decode cX7_begins 18 = .ok (.iload_n 1, 1) := by decide +kernel
theorem dX7_begins_19 : decode cX7_begins 19 = .ok (.iconst 0, 1) := by decide +kernel
theorem dX7_begins_20 : decode cX7_begins 20 = .ok (.iastore, 1) := by decide +kernel
theorem dX7_begins_21 : decode cX7_begins 21 = .ok (.iinc 1 1, 3) := by decide +kernel
theorem dX7_begins_24 : decode cX7_begins 24 = .ok (.goto (-22), 3) := by decide +kernel
theorem dX7_begins_27 : decode cX7_begins 27 = .ok (.aload_n 0, 1) := by decide +kernel
theorem dX7_begins_28 : decode cX7_begins 28 = .ok (.iconst 0, 1) := by decide +kernel
theorem dX7_begins_29 : decode cX7_begins 29 = .ok (.putfield 191, 3) := by decide +kernel
theorem dX7_begins_32 : decode cX7_begins 32 = .ok (.aload_n 0, 1) := by decide +kernel
theorem dX7_begins_33 : decode cX7_begins 33 = .ok (.iconst 0, 1) := by decide +kernel
theorem dX7_begins_34 : decode cX7_begins 34 = .ok (.putfield 194, 3) := by decide +kernel
theorem dX7_begins_37 : decode cX7_begins 37 = .ok (.aload_n 0, 1) := by decide +kernel
theorem dX7_begins_38 : decode cX7_begins 38 = .ok (.iconst 0, 1) := by decide +kernel
theorem dX7_begins_39 : decode cX7_begins 39 = .ok (.putfield 197, 3) := by decide +kernel
theorem dX7_begins_42 : decode cX7_begins 42 = .ok (.aload_n 0, 1) := by decide +kernel
theorem dX7_begins_43 : decode cX7_begins 43 = .ok (.iconst 0, 1) := by decide +kernel
theorem dX7_begins_44 : decode cX7_begins 44 = .ok (.putfield 200, 3) := by decide +kernel
theorem dX7_begins_47 : decode cX7_begins 47 = .ok (.aload_n 0, 1) := by decide +kernel
theorem dX7_begins_48 : decode cX7_begins 48 = .ok (.bipush (-9), 2) := by decide +kernel
theorem dX7_begins_50 : decode cX7_begins 50 = .ok (.putfield 203, 3) := by decide +kernel
theorem dX7_begins_53 : decode cX7_begins 53 = .ok (.aload_n 0, 1) := by decide +kernel
theorem dX7_begins_54 : decode cX7_begins 54 = .ok (.iconst 0, 1) := by decide +kernel
theorem dX7_begins_55 : decode cX7_begins 55 = .ok (.putfield 206, 3) := by decide +kernel
theorem dX7_begins_58 : decode cX7_begins 58 = .ok (.return_, 1) := by decide +kernel
theorem dX7_getsUp_0 : decode cX7_getsUp 0 = .ok (.aload_n 0, 1) := by decide +kernel
theorem dX7_getsUp_1 : decode cX7_getsUp 1 = .ok (.aload_n 0, 1) := by decide +kernel
theorem dX7_getsUp_2 : decode cX7_getsUp 2 = .ok (.invokevirtual 209, 3) := by decide +kernel
theorem dX7_getsUp_5 : decode cX7_getsUp 5 = .ok (.aload_n 0, 1) := by decide +kernel
theorem dX7_getsUp_6 : decode cX7_getsUp 6 = .ok (.getfield 28, 3) := by decide +kernel
theorem dX7_getsUp_9 : decode cX7_getsUp 9 = .ok (.aload_n 0, 1) := by decide +kernel
theorem dX7_getsUp_10 : decode cX7_getsUp 10 = .ok (.getfield 170, 3) := by decide +kernel
theorem dX7_getsUp_13 : decode cX7_getsUp 13 = .ok (.iaload, 1) := by decide +kernel
theorem dX7_getsUp_14 : decode cX7_getsUp 14 = .ok (.invokevirtual 212, 3) := by decide +kernel
theorem dX7_getsUp_17 : decode cX7_getsUp 17 = .ok (.aload_n 0, 1) := by decide +kernel
theorem dX7_getsUp_18 : decode cX7_getsUp 18 = .ok (.getfield 52, 3) := by decide +kernel
theorem dX7_getsUp_21 : decode cX7_getsUp 21 = .ok (.aload_n 0, 1) := by decide +kernel
theorem dX7_getsUp_22 : decode cX7_getsUp 22 = .ok (.getfield 170, 3) := by decide +kernel
theorem dX7_getsUp_25 : decode cX7_getsUp 25 = .ok (.dup2, 1) := by decide +kernel
theorem dX7_getsUp_26 : decode cX7_getsUp 26 = .ok (.iaload, 1) := by decide +kernel
theorem dX7_getsUp_27 : decode cX7_getsUp 27 = .ok (.iconst 1, 1) := by decide +kernel
theorem dX7_getsUp_28 : decode cX7_getsUp 28 = .ok (.iadd, 1) := by decide +kernel
theorem dX7_getsUp_29 : decode cX7_getsUp 29 = .ok (.iastore, 1) := by decide +kernel
theorem dX7_getsUp_30 : decode cX7_getsUp 30 = .ok (.aload_n 0, 1) := by decide +kernel
theorem dX7_getsUp_31 : decode cX7_getsUp 31 = .ok (.dup, 1) := by decide +kernel
theorem dX7_getsUp_32 : decode cX7_getsUp 32 = .ok (.getfield 194, 3) := by decide +kernel
theorem dX7_getsUp_35 : decode cX7_getsUp 35 = .ok (.aload_n 0, 1) := by decide +kernel
theorem dX7_getsUp_36 : decode cX7_getsUp 36 = .ok (.getfield 31, 3) := by decide +kernel
theorem dX7_getsUp_39 : decode cX7_getsUp 39 = .ok (.aload_n 0, 1) := by decide +kernel
theorem dX7_getsUp_40 : decode cX7_getsUp 40 = .ok (.getfield 170, 3) := by decide +kernel
theorem dX7_getsUp_43 : decode cX7_getsUp 43 = .ok (.iaload, 1) := by decide +kernel
theorem dX7_getsUp_44 : decode cX7_getsUp 44 = .ok (.iadd, 1) := by decide +kernel
theorem dX7_getsUp_45 : decode cX7_getsUp 45 = .ok (.putfield 194, 3) := by decide +kernel
theorem dX7_getsUp_48 : decode cX7_getsUp 48 = .ok (.aload_n 0, 1) := by decide +kernel
theorem dX7_getsUp_49 : decode cX7_getsUp 49 = .ok (.getfield 58, 3) := by decide +kernel
theorem dX7_getsUp_52 : decode cX7_getsUp 52 = .ok (.aload_n 0, 1) := by decide +kernel
theorem dX7_getsUp_53 : decode cX7_getsUp 53 = .ok (.getfield 191, 3) := by decide +kernel
theorem dX7_getsUp_56 : decode cX7_getsUp 56 = .ok (.aload_n 0, 1) := by decide +kernel
theorem dX7_getsUp_57 : decode cX7_getsUp 57 = .ok (.getfield 206, 3) := by decide +kernel
theorem dX7_getsUp_60 : decode cX7_getsUp 60 = .ok (.iastore, 1) := by decide +kernel
theorem dX7_getsUp_61 : decode cX7_getsUp 61 = .ok (.aload_n 0, 1) := by decide +kernel
theorem dX7_getsUp_62 : decode cX7_getsUp 62 = .ok (.dup, 1) := by decide +kernel
theorem dX7_getsUp_63 : decode cX7_getsUp 63 = .ok (.getfield 191, 3) := by decide +kernel
theorem dX7_getsUp_66 : decode cX7_getsUp 66 = .ok (.iconst 1, 1) := by decide +kernel
theorem dX7_getsUp_67 : decode cX7_getsUp 67 = .ok (.iadd, 1) := by decide +kernel
theorem dX7_getsUp_68 : decode cX7_getsUp 68 = .ok (.putfield 191, 3) := by decide +kernel
theorem dX7_getsUp_71 : decode cX7_getsUp 71 = .ok (.aload_n 0, 1) := by decide +kernel
theorem dX7_getsUp_72 : decode cX7_getsUp 72 = .ok (.aload_n 0, 1) := by decide +kernel
theorem dX7_getsUp_73 : decode cX7_getsUp 73 = .ok (.getfield 170, 3) := by decide +kernel
theorem dX7_getsUp_76 : decode cX7_getsUp 76 = .ok (.putfield 203, 3) := by decide +kernel
theorem dX7_getsUp_79 : decode cX7_getsUp 79 = .ok (.aload_n 0, 1) := by decide +kernel
theorem dX7_getsUp_80 : decode cX7_getsUp 80 = .ok (.aload_n 0, 1) := by decide +kernel
theorem dX7_getsUp_81 : decode cX7_getsUp 81 = .ok (.getfield 170, 3) := by decide +kernel
theorem dX7_getsUp_84 : decode cX7_getsUp 84 = .ok (.iconst 1, 1) := by decide +kernel
theorem dX7_getsUp_85 : decode cX7_getsUp 85 = .ok (.iadd, 1) := by decide +kernel
theorem dX7_getsUp_86 : decode cX7_getsUp 86 = .ok (.aload_n 0, 1) := by decide +kernel
theorem dX7_getsUp_87 : decode cX7_getsUp 87 = .ok (.getfield 65, 3) := by decide +kernel
theorem dX7_getsUp_90 : decode cX7_getsUp 90 = .ok (.irem, 1) := by decide +kernel
theorem dX7_getsUp_91 : decode cX7_getsUp 91 = .ok (.putfield 170, 3) := by decide +kernel
theorem dX7_getsUp_94 : decode cX7_getsUp 94 = .ok (.return_, 1) := by decide +kernel
theorem dX7_goesOne_0 : decode cX7_goesOne 0 = .ok (.aload_n 0, 1) := by decide +kernel
theorem dX7_goesOne_1 : decode cX7_goesOne 1 = .ok (.getfield 13, 3) := by decide +kernel
theorem dX7_goesOne_4 : decode cX7_goesOne 4 = .ok (.iconst 0, 1) := by decide +kernel
theorem dX7_goesOne_5 : decode cX7_goesOne 5 = .ok (.iaload, 1) := by decide +kernel
theorem dX7_goesOne_6 : decode cX7_goesOne 6 = .ok (.aload_n 0, 1) := by decide +kernel
theorem dX7_goesOne_7 : decode cX7_goesOne 7 = .ok (.aload_n 0, 1) := by decide +kernel
theorem dX7_goesOne_8 : decode cX7_goesOne 8 = .ok (.getfield 138, 3) := by decide +kernel
theorem dX7_goesOne_11 : decode cX7_goesOne 11 = .ok (.invokevirtual 188, 3) := by decide +kernel
theorem dX7_goesOne_14 : decode cX7_goesOne 14 = .ok (.iadd, 1) := by decide +kernel
theorem dX7_goesOne_15 : decode cX7_goesOne 15 = .ok (.istore_n 1, 1) := by decide +kernel
theorem dX7_goesOne_16 : decode cX7_goesOne 16 = .ok (.aload_n 0, 1) := by decide +kernel
