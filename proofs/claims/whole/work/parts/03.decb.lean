theorem dX5_firstUnfit_28 : decode cX5_firstUnfit 28 = .ok (.aload_n 0, 1) := by decide +kernel
theorem dX5_firstUnfit_29 : decode cX5_firstUnfit 29 = .ok (.iload_n 3, 1) := by decide +kernel
theorem dX5_firstUnfit_30 : decode cX5_firstUnfit 30 = .ok (.invokevirtual 19, 3) := by decide +kernel
theorem dX5_firstUnfit_33 : decode cX5_firstUnfit 33 = .ok (.invokestatic 46, 3) := by decide +kernel
theorem dX5_firstUnfit_36 : decode cX5_firstUnfit 36 = .ok (.ifCond .ne 5, 3) := by decide +kernel
theorem dX5_firstUnfit_39 : decode cX5_firstUnfit 39 = .ok (.iload_n 3, 1) := by decide +kernel
theorem dX5_firstUnfit_40 : decode cX5_firstUnfit 40 = .ok (.ireturn, 1) := by decide +kernel
theorem dX5_firstUnfit_41 : decode cX5_firstUnfit 41 = .ok (.iinc 2 1, 3) := by decide +kernel
theorem dX5_firstUnfit_44 : decode cX5_firstUnfit 44 = .ok (.goto 20, 3) := by decide +kernel
theorem dX5_firstUnfit_47 : decode cX5_firstUnfit 47 = .ok (.aload_n 0, 1) := by decide +kernel
theorem dX5_firstUnfit_48 : decode cX5_firstUnfit 48 = .ok (.iload_n 3, 1) := by decide +kernel
theorem dX5_firstUnfit_49 : decode cX5_firstUnfit 49 = .ok (.invokevirtual 50, 3) := by decide +kernel
theorem dX5_firstUnfit_52 : decode cX5_firstUnfit 52 = .ok (.astore_n 1, 1) := by decide +kernel
theorem dX5_firstUnfit_53 : decode cX5_firstUnfit 53 = .ok (.iconst 0, 1) := by decide +kernel
theorem dX5_firstUnfit_54 : decode cX5_firstUnfit 54 = .ok (.istore_n 2, 1) := by decide +kernel
theorem dX5_firstUnfit_55 : decode cX5_firstUnfit 55 = .ok (.aload_n 1, 1) := by decide +kernel
theorem dX5_firstUnfit_56 : decode cX5_firstUnfit 56 = .ok (.invokevirtual 54, 3) := by decide +kernel
theorem dX5_firstUnfit_59 : decode cX5_firstUnfit 59 = .ok (.ifCond .eq 5, 3) := by decide +kernel
theorem dX5_firstUnfit_62 : decode cX5_firstUnfit 62 = .ok (.iload_n 3, 1) := by decide +kernel
theorem dX5_firstUnfit_63 : decode cX5_firstUnfit 63 = .ok (.ireturn, 1) := by decide +kernel
theorem dX5_firstUnfit_64 : decode cX5_firstUnfit 64 = .ok (.iinc 3 1, 3) := by decide +kernel
theorem dX5_firstUnfit_67 : decode cX5_firstUnfit 67 = .ok (.goto (-60), 3) := by decide +kernel
theorem dX5_firstUnfit_70 : decode cX5_firstUnfit 70 = .ok (.aload_n 0, 1) := by decide +kernel
theorem dX5_firstUnfit_71 : decode cX5_firstUnfit 71 = .ok (.getfield 15, 3) := by decide +kernel
theorem dX5_firstUnfit_74 : decode cX5_firstUnfit 74 = .ok (.ifCond .eq 11, 3) := by decide +kernel
theorem dX5_firstUnfit_77 : decode cX5_firstUnfit 77 = .ok (.iload_n 2, 1) := by decide +kernel
theorem dX5_firstUnfit_78 : decode cX5_firstUnfit 78 = .ok (.aload_n 1, 1) := by decide +kernel
theorem dX5_firstUnfit_79 : decode cX5_firstUnfit 79 = .ok (.invokevirtual 37, 3) := by decide +kernel
theorem dX5_firstUnfit_82 : decode cX5_firstUnfit 82 = .ok (.if_icmp .ge 10, 3) := by decide +kernel
theorem dX5_firstUnfit_85 : decode cX5_firstUnfit 85 = .ok (.aload_n 0, 1) := by decide +kernel
theorem dX5_firstUnfit_86 : decode cX5_firstUnfit 86 = .ok (.getfield 15, 3) := by decide +kernel
theorem dX5_firstUnfit_89 : decode cX5_firstUnfit 89 = .ok (.goto 5, 3) := by decide +kernel
theorem dX5_firstUnfit_92 : decode cX5_firstUnfit 92 = .ok (.bipush (-9), 2) := by decide +kernel
theorem dX5_firstUnfit_94 : decode cX5_firstUnfit 94 = .ok (.ireturn, 1) := by decide +kernel
theorem dX5_tellTo_0 : decode cX5_tellTo 0 = .ok (.aload_n 0, 1) := by decide +kernel
theorem dX5_tellTo_1 : decode cX5_tellTo 1 = .ok (.iload_n 2, 1) := by decide +kernel
theorem dX5_tellTo_2 : decode cX5_tellTo 2 = .ok (.invokevirtual 19, 3) := by decide +kernel
theorem dX5_tellTo_5 : decode cX5_tellTo 5 = .ok (.lookupswitch 131 #[(100, 85), (112, 51), (114, 124), (115, 78), (119, 58)], 51) := by decide +kernel
theorem dX5_tellTo_56 : decode cX5_tellTo 56 = .ok (.aload_n 0, 1) := by decide +kernel
theorem dX5_tellTo_57 : decode cX5_tellTo 57 = .ok (.aload_n 1, 1) := by decide +kernel
theorem dX5_tellTo_58 : decode cX5_tellTo 58 = .ok (.iload_n 2, 1) := by decide +kernel
theorem dX5_tellTo_59 : decode cX5_tellTo 59 = .ok (.invokevirtual 58, 3) := by decide +kernel
theorem dX5_tellTo_62 : decode cX5_tellTo 62 = .ok (.ireturn, 1) := by decide +kernel
theorem dX5_tellTo_63 : decode cX5_tellTo 63 = .ok (.aload_n 1, 1) := by decide +kernel
theorem dX5_tellTo_64 : decode cX5_tellTo 64 = .ok (.aload_n 0, 1) := by decide +kernel
theorem dX5_tellTo_65 : decode cX5_tellTo 65 = .ok (.iload_n 2, 1) := by decide +kernel
theorem dX5_tellTo_66 : decode cX5_tellTo 66 = .ok (.iconst 1, 1) := by decide +kernel
theorem dX5_tellTo_67 : decode cX5_tellTo 67 = .ok (.iadd, 1) := by decide +kernel
theorem dX5_tellTo_68 : decode cX5_tellTo 68 = .ok (.aload_n 0, 1) := by decide +kernel
theorem dX5_tellTo_69 : decode cX5_tellTo 69 = .ok (.iload_n 2, 1) := by decide +kernel
theorem dX5_tellTo_70 : decode cX5_tellTo 70 = .ok (.iconst 2, 1) := by decide +kernel
theorem dX5_tellTo_71 : decode cX5_tellTo 71 = .ok (.iadd, 1) := by decide +kernel
theorem dX5_tellTo_72 : decode cX5_tellTo 72 = .ok (.invokevirtual 62, 3) := by decide +kernel
theorem dX5_tellTo_75 : decode cX5_tellTo 75 = .ok (.invokevirtual 66, 3) := by decide +kernel
theorem dX5_tellTo_78 : decode cX5_tellTo 78 = .ok (.putfield 70, 3) := by decide +kernel
theorem dX5_tellTo_81 : decode cX5_tellTo 81 = .ok (.iconst 1, 1) := by decide +kernel
theorem dX5_tellTo_82 : decode cX5_tellTo 82 = .ok (.ireturn, 1) := by decide +kernel
theorem dX5_tellTo_83 : decode cX5_tellTo 83 = .ok (.aload_n 0, 1) := by decide +kernel
theorem dX5_tellTo_84 : decode cX5_tellTo 84 = .ok (.aload_n 1, 1) := by decide +kernel
theorem dX5_tellTo_85 : decode cX5_tellTo 85 = .ok (.iload_n 2, 1) := by decide +kernel
theorem dX5_tellTo_86 : decode cX5_tellTo 86 = .ok (.invokevirtual 75, 3) := by decide +kernel
theorem dX5_tellTo_89 : decode cX5_tellTo 89 = .ok (.ireturn, 1) := by decide +kernel
theorem dX5_tellTo_90 : decode cX5_tellTo 90 = .ok (.aload_n 1, 1) := by decide +kernel
theorem dX5_tellTo_91 : decode cX5_tellTo 91 = .ok (.getfield 78, 3) := by decide +kernel
theorem dX5_tellTo_94 : decode cX5_tellTo 94 = .ok (.aload_n 0, 1) := by decide +kernel
theorem dX5_tellTo_95 : decode cX5_tellTo 95 = .ok (.ldc 82, 2) := by decide +kernel
theorem dX5_tellTo_97 : decode cX5_tellTo 97 = .ok (.iload_n 2, 1) := by decide +kernel
theorem dX5_tellTo_98 : decode cX5_tellTo 98 = .ok (.iconst 1, 1) := by decide +kernel
theorem dX5_tellTo_99 : decode cX5_tellTo 99 = .ok (.iadd, 1) := by decide +kernel
theorem dX5_tellTo_100 : decode cX5_tellTo 100 = .ok (.invokevirtual 84, 3) := by decide +kernel
theorem dX5_tellTo_103 : decode cX5_tellTo 103 = .ok (.putfield 88, 3) := by decide +kernel
theorem dX5_tellTo_106 : decode cX5_tellTo 106 = .ok (.aload_n 1, 1) := by decide +kernel
theorem dX5_tellTo_107 : decode cX5_tellTo 107 = .ok (.getfield 78, 3) := by decide +kernel
theorem dX5_tellTo_110 : decode cX5_tellTo 110 = .ok (.aload_n 0, 1) := by decide +kernel
theorem dX5_tellTo_111 : decode cX5_tellTo 111 = .ok (.iload_n 2, 1) := by decide +kernel
theorem dX5_tellTo_112 : decode cX5_tellTo 112 = .ok (.iconst 2, 1) := by decide +kernel
theorem dX5_tellTo_113 : decode cX5_tellTo 113 = .ok (.iadd, 1) := by decide +kernel
theorem dX5_tellTo_114 : decode cX5_tellTo 114 = .ok (.aload_n 0, 1) := by decide +kernel
theorem dX5_tellTo_115 : decode cX5_tellTo 115 = .ok (.iload_n 2, 1) := by decide +kernel
theorem dX5_tellTo_116 : decode cX5_tellTo 116 = .ok (.iconst 3, 1) := by decide +kernel
theorem dX5_tellTo_117 : decode cX5_tellTo 117 = .ok (.iadd, 1) := by decide +kernel
theorem dX5_tellTo_118 : decode cX5_tellTo 118 = .ok (.invokevirtual 93, 3) := by decide +kernel
theorem dX5_tellTo_121 : decode cX5_tellTo 121 = .ok (.invokevirtual 66, 3) := by decide +kernel
theorem dX5_tellTo_124 : decode cX5_tellTo 124 = .ok (.putfield 96, 3) := by decide +kernel
theorem dX5_tellTo_127 : decode cX5_tellTo 127 = .ok (.iconst 1, 1) := by decide +kernel
theorem dX5_tellTo_128 : decode cX5_tellTo 128 = .ok (.ireturn, 1) := by decide +kernel
theorem dX5_tellTo_129 : decode cX5_tellTo 129 = .ok (.aload_n 0, 1) := by decide +kernel
theorem dX5_tellTo_130 : decode cX5_tellTo 130 = .ok (.aload_n 1, 1) := by decide +kernel
theorem dX5_tellTo_131 : decode cX5_tellTo 131 = .ok (.iload_n 2, 1) := by decide +kernel
theorem dX5_tellTo_132 : decode cX5_tellTo 132 = .ok (.invokevirtual 99, 3) := by decide +kernel
theorem dX5_tellTo_135 : decode cX5_tellTo 135 = .ok (.ireturn, 1) := by decide +kernel
theorem dX5_tellTo_136 : decode cX5_tellTo 136 = .ok (.aload_n 0, 1) := by decide +kernel
theorem dX5_tellTo_137 : decode cX5_tellTo 137 = .ok (.aload_n 1, 1) := by decide +kernel
theorem dX5_tellTo_138 : decode cX5_tellTo 138 = .ok (.iload_n 2, 1) := by decide +kernel
theorem dX5_tellTo_139 : decode cX5_tellTo 139 = .ok (.aload_n 3, 1) := by decide +kernel
theorem dX5_tellTo_140 : decode cX5_tellTo 140 = .ok (.invokevirtual 102, 3) := by decide +kernel
theorem dX5_tellTo_143 : decode cX5_tellTo 143 = .ok (.ireturn, 1) := by decide +kernel
theorem dX5_tellPerson_0 : decode cX5_tellPerson 0 = .ok (.aload_n 0, 1) := by decide +kernel
theorem dX5_tellPerson_1 : decode cX5_tellPerson 1 = .ok (.iload_n 2, 1) := by decide +kernel
theorem dX5_tellPerson_2 : decode cX5_tellPerson 2 = .ok (.iconst 4, 1) := by decide +kernel
theorem dX5_tellPerson_3 : decode cX5_tellPerson 3 = .ok (.iadd, 1) := by decide +kernel
theorem dX5_tellPerson_4 : decode cX5_tellPerson 4 = .ok (.invokevirtual 93, 3) := by decide +kernel
theorem dX5_tellPerson_7 : decode cX5_tellPerson 7 = .ok (.istore_n 3, 1) := by decide +kernel
theorem dX5_tellPerson_8 : decode cX5_tellPerson 8 = .ok (.aload_n 0, 1) := by decide +kernel
theorem dX5_tellPerson_9 : decode cX5_tellPerson 9 = .ok (.iload_n 2, 1) := by decide +kernel
theorem dX5_tellPerson_10 : decode cX5_tellPerson 10 = .ok (.iconst 5, 1) := by decide +kernel
theorem dX5_tellPerson_11 : decode cX5_tellPerson 11 = .ok (.iadd, 1) := by decide +kernel
theorem dX5_tellPerson_12 : decode cX5_tellPerson 12 = .ok (.invokevirtual 93, 3) := by decide +kernel
theorem dX5_tellPerson_15 : decode cX5_tellPerson 15 = .ok (.istore 4, 2) := by decide +kernel
theorem dX5_tellPerson_17 : decode cX5_tellPerson 17 = .ok (.aload_n 1, 1) := by decide +kernel
theorem dX5_tellPerson_18 : decode cX5_tellPerson 18 = .ok (.getfield 106, 3) := by decide +kernel
theorem dX5_tellPerson_21 : decode cX5_tellPerson 21 = .ok (.istore 5, 2) := by decide +kernel
theorem dX5_tellPerson_23 : decode cX5_tellPerson 23 = .ok (.iload_n 3, 1) := by decide +kernel
theorem dX5_tellPerson_24 : decode cX5_tellPerson 24 = .ok (.iconst 1, 1) := by decide +kernel
theorem dX5_tellPerson_25 : decode cX5_tellPerson 25 = .ok (.if_icmp .gt 26, 3) := by decide +kernel
theorem dX5_tellPerson_28 : decode cX5_tellPerson 28 = .ok (.iload 4, 2) := by decide +kernel
theorem dX5_tellPerson_30 : decode cX5_tellPerson 30 = .ok (.iconst 1, 1) := by decide +kernel
theorem dX5_tellPerson_31 : decode cX5_tellPerson 31 = .ok (.if_icmp .lt 20, 3) := by decide +kernel
theorem dX5_tellPerson_34 : decode cX5_tellPerson 34 = .ok (.iload 4, 2) := by decide +kernel
theorem dX5_tellPerson_36 : decode cX5_tellPerson 36 = .ok (.iconst 5, 1) := by decide +kernel
theorem dX5_tellPerson_37 : decode cX5_tellPerson 37 = .ok (.if_icmp .gt 14, 3) := by decide +kernel
theorem dX5_tellPerson_40 : decode cX5_tellPerson 40 = .ok (.iload 5, 2) := by decide +kernel
theorem dX5_tellPerson_42 : decode cX5_tellPerson 42 = .ok (.ifCond .lt 9, 3) := by decide +kernel
theorem dX5_tellPerson_45 : decode cX5_tellPerson 45 = .ok (.iload 5, 2) := by decide +kernel
theorem dX5_tellPerson_47 : decode cX5_tellPerson 47 = .ok (.iconst 5, 1) := by decide +kernel
theorem dX5_tellPerson_48 : decode cX5_tellPerson 48 = .ok (.if_icmp .lt 5, 3) := by decide +kernel
theorem dX5_tellPerson_51 : decode cX5_tellPerson 51 = .ok (.iconst 0, 1) := by decide +kernel
theorem dX5_tellPerson_52 : decode cX5_tellPerson 52 = .ok (.ireturn, 1) := by decide +kernel
theorem dX5_tellPerson_53 : decode cX5_tellPerson 53 = .ok (.aload_n 1, 1) := by decide +kernel
theorem dX5_tellPerson_54 : decode cX5_tellPerson 54 = .ok (.getfield 109, 3) := by decide +kernel
theorem dX5_tellPerson_57 : decode cX5_tellPerson 57 = .ok (.iload 5, 2) := by decide +kernel
theorem dX5_tellPerson_59 : decode cX5_tellPerson 59 = .ok (.aaload, 1) := by decide +kernel
theorem dX5_tellPerson_60 : decode cX5_tellPerson 60 = .ok (.astore 6, 2) := by decide +kernel
theorem dX5_tellPerson_62 : decode cX5_tellPerson 62 = .ok (.aload 6, 2) := by decide +kernel
theorem dX5_tellPerson_64 : decode cX5_tellPerson 64 = .ok (.aload_n 0, 1) := by decide +kernel
theorem dX5_tellPerson_65 : decode cX5_tellPerson 65 = .ok (.ldc 113, 2) := by decide +kernel
theorem dX5_tellPerson_67 : decode cX5_tellPerson 67 = .ok (.iload_n 2, 1) := by decide +kernel
theorem dX5_tellPerson_68 : decode cX5_tellPerson 68 = .ok (.iconst 1, 1) := by decide +kernel
theorem dX5_tellPerson_69 : decode cX5_tellPerson 69 = .ok (.iadd, 1) := by decide +kernel
theorem dX5_tellPerson_70 : decode cX5_tellPerson 70 = .ok (.invokevirtual 84, 3) := by decide +kernel
theorem dX5_tellPerson_73 : decode cX5_tellPerson 73 = .ok (.putfield 115, 3) := by decide +kernel
theorem dX5_tellPerson_76 : decode cX5_tellPerson 76 = .ok (.aload 6, 2) := by decide +kernel
theorem dX5_tellPerson_78 : decode cX5_tellPerson 78 = .ok (.aload_n 0, 1) := by decide +kernel
theorem dX5_tellPerson_79 : decode cX5_tellPerson 79 = .ok (.iload_n 2, 1) := by decide +kernel
theorem dX5_tellPerson_80 : decode cX5_tellPerson 80 = .ok (.iconst 2, 1) := by decide +kernel
theorem dX5_tellPerson_81 : decode cX5_tellPerson 81 = .ok (.iadd, 1) := by decide +kernel
theorem dX5_tellPerson_82 : decode cX5_tellPerson 82 = .ok (.invokevirtual 93, 3) := by decide +kernel
theorem dX5_tellPerson_85 : decode cX5_tellPerson 85 = .ok (.putfield 118, 3) := by decide +kernel
theorem dX5_tellPerson_88 : decode cX5_tellPerson 88 = .ok (.aload 6, 2) := by decide +kernel
theorem dX5_tellPerson_90 : decode cX5_tellPerson 90 = .ok (.aload_n 0, 1) := by decide +kernel
theorem dX5_tellPerson_91 : decode cX5_tellPerson 91 = .ok (.iload_n 2, 1) := by decide +kernel
theorem dX5_tellPerson_92 : decode cX5_tellPerson 92 = .ok (.iconst 3, 1) := by decide +kernel
theorem dX5_tellPerson_93 : decode cX5_tellPerson 93 = .ok (.iadd, 1) := by decide +kernel
theorem dX5_tellPerson_94 : decode cX5_tellPerson 94 = .ok (.invokevirtual 93, 3) := by decide +kernel
theorem dX5_tellPerson_97 : decode cX5_tellPerson 97 = .ok (.putfield 121, 3) := by decide +kernel
theorem dX5_tellPerson_100 : decode cX5_tellPerson 100 = .ok (.aload 6, 2) := by decide +kernel
theorem dX5_tellPerson_102 : decode cX5_tellPerson 102 = .ok (.iload_n 3, 1) := by decide +kernel
theorem dX5_tellPerson_103 : decode cX5_tellPerson 103 = .ok (.putfield 124, 3) := by decide +kernel
theorem dX5_tellPerson_106 : decode cX5_tellPerson 106 = .ok (.aload 6, 2) := by decide +kernel
theorem dX5_tellPerson_108 : decode cX5_tellPerson 108 = .ok (.iload 4, 2) := by decide +kernel
theorem dX5_tellPerson_110 : decode cX5_tellPerson 110 = .ok (.putfield 127, 3) := by decide +kernel
theorem dX5_tellPerson_113 : decode cX5_tellPerson 113 = .ok (.aload 6, 2) := by decide +kernel
theorem dX5_tellPerson_115 : decode cX5_tellPerson 115 = .ok (.aload_n 0, 1) := by decide +kernel
theorem dX5_tellPerson_116 : decode cX5_tellPerson 116 = .ok (.iload_n 2, 1) := by decide +kernel
theorem dX5_tellPerson_117 : decode cX5_tellPerson 117 = .ok (.bipush 6, 2) := by decide +kernel
theorem dX5_tellPerson_119 : decode cX5_tellPerson 119 = .ok (.iadd, 1) := by decide +kernel
theorem dX5_tellPerson_120 : decode cX5_tellPerson 120 = .ok (.invokevirtual 93, 3) := by decide +kernel
theorem dX5_tellPerson_123 : decode cX5_tellPerson 123 = .ok (.putfield 130, 3) := by decide +kernel
theorem dX5_tellPerson_126 : decode cX5_tellPerson 126 = .ok (.aload_n 1, 1) := by decide +kernel
theorem dX5_tellPerson_127 : decode cX5_tellPerson 127 = .ok (.dup, 1) := by decide +kernel
theorem dX5_tellPerson_128 : decode cX5_tellPerson 128 = .ok (.getfield 106, 3) := by decide +kernel
theorem dX5_tellPerson_131 : decode cX5_tellPerson 131 = .ok (.iconst 1, 1) := by decide +kernel
theorem dX5_tellPerson_132 : decode cX5_tellPerson 132 = .ok (.iadd, 1) := by decide +kernel
theorem dX5_tellPerson_133 : decode cX5_tellPerson 133 = .ok (.putfield 106, 3) := by decide +kernel
theorem dX5_tellPerson_136 : decode cX5_tellPerson 136 = .ok (.iconst 1, 1) := by decide +kernel
theorem dX5_tellPerson_137 : decode cX5_tellPerson 137 = .ok (.ireturn, 1) := by decide +kernel
theorem dX5_tellStation_0 : decode cX5_tellStation 0 = .ok (.aload_n 0, 1) := by decide +kernel
theorem dX5_tellStation_1 : decode cX5_tellStation 1 = .ok (.iload_n 2, 1) := by decide +kernel
theorem dX5_tellStation_2 : decode cX5_tellStation 2 = .ok (.iconst 1, 1) := by decide +kernel
theorem dX5_tellStation_3 : decode cX5_tellStation 3 = .ok (.iadd, 1) := by decide +kernel
theorem dX5_tellStation_4 : decode cX5_tellStation 4 = .ok (.invokevirtual 93, 3) := by decide +kernel
theorem dX5_tellStation_7 : decode cX5_tellStation 7 = .ok (.istore_n 3, 1) := by decide +kernel
theorem dX5_tellStation_8 : decode cX5_tellStation 8 = .ok (.aload_n 0, 1) := by decide +kernel
theorem dX5_tellStation_9 : decode cX5_tellStation 9 = .ok (.iload_n 2, 1) := by decide +kernel
theorem dX5_tellStation_10 : decode cX5_tellStation 10 = .ok (.iconst 3, 1) := by decide +kernel
theorem dX5_tellStation_11 : decode cX5_tellStation 11 = .ok (.iadd, 1) := by decide +kernel
theorem dX5_tellStation_12 : decode cX5_tellStation 12 = .ok (.invokevirtual 62, 3) := by decide +kernel
theorem dX5_tellStation_15 : decode cX5_tellStation 15 = .ok (.istore 4, 2) := by decide +kernel
theorem dX5_tellStation_17 : decode cX5_tellStation 17 = .ok (.iload_n 3, 1) := by decide +kernel
theorem dX5_tellStation_18 : decode cX5_tellStation 18 = .ok (.iconst 1, 1) := by decide +kernel
theorem dX5_tellStation_19 : decode cX5_tellStation 19 = .ok (.if_icmp .gt 10, 3) := by decide +kernel
theorem dX5_tellStation_22 : decode cX5_tellStation 22 = .ok (.iload 4, 2) := by decide +kernel
theorem dX5_tellStation_24 : decode cX5_tellStation 24 = .ok (.bipush 20, 2) := by decide +kernel
theorem dX5_tellStation_26 : decode cX5_tellStation 26 = .ok (.if_icmp .le 5, 3) := by decide +kernel
theorem dX5_tellStation_29 : decode cX5_tellStation 29 = .ok (.iconst 0, 1) := by decide +kernel
theorem dX5_tellStation_30 : decode cX5_tellStation 30 = .ok (.ireturn, 1) := by decide +kernel
theorem dX5_tellStation_31 : decode cX5_tellStation 31 = .ok (.aload_n 1, 1) := by decide +kernel
theorem dX5_tellStation_32 : decode cX5_tellStation 32 = .ok (.iload_n 3, 1) := by decide +kernel
theorem dX5_tellStation_33 : decode cX5_tellStation 33 = .ok (.ifCond .ne 7, 3) := by decide +kernel
theorem dX5_tellStation_36 : decode cX5_tellStation 36 = .ok (.iconst 1, 1) := by decide +kernel
theorem dX5_tellStation_37 : decode cX5_tellStation 37 = .ok (.goto 4, 3) := by decide +kernel
theorem dX5_tellStation_40 : decode cX5_tellStation 40 = .ok (.iconst 2, 1) := by decide +kernel
theorem dX5_tellStation_41 : decode cX5_tellStation 41 = .ok (.aload_n 0, 1) := by decide +kernel
theorem dX5_tellStation_42 : decode cX5_tellStation 42 = .ok (.iload_n 2, 1) := by decide +kernel
theorem dX5_tellStation_43 : decode cX5_tellStation 43 = .ok (.iconst 2, 1) := by decide +kernel
theorem dX5_tellStation_44 : decode cX5_tellStation 44 = .ok (.iadd, 1) := by decide +kernel
theorem dX5_tellStation_45 : decode cX5_tellStation 45 = .ok (.iload 4, 2) := by decide +kernel
theorem dX5_tellStation_47 : decode cX5_tellStation 47 = .ok (.invokevirtual 66, 3) := by decide +kernel
theorem dX5_tellStation_50 : decode cX5_tellStation 50 = .ok (.invokevirtual 133, 3) := by decide +kernel
theorem dX5_tellStation_53 : decode cX5_tellStation 53 = .ok (.pop, 1) := by decide +kernel
theorem dX5_tellStation_54 : decode cX5_tellStation 54 = .ok (.iconst 1, 1) := by decide +kernel
theorem dX5_tellStation_55 : decode cX5_tellStation 55 = .ok (.ireturn, 1) := by decide +kernel
theorem dX5_tellRule_0 : decode cX5_tellRule 0 = .ok (.aload_n 0, 1) := by decide +kernel
theorem dX5_tellRule_1 : decode cX5_tellRule 1 = .ok (.iload_n 2, 1) := by decide +kernel
theorem dX5_tellRule_2 : decode cX5_tellRule 2 = .ok (.iconst 2, 1) := by decide +kernel
theorem dX5_tellRule_3 : decode cX5_tellRule 3 = .ok (.iadd, 1) := by decide +kernel
theorem dX5_tellRule_4 : decode cX5_tellRule 4 = .ok (.invokevirtual 62, 3) := by decide +kernel
theorem dX5_tellRule_7 : decode cX5_tellRule 7 = .ok (.istore_n 3, 1) := by decide +kernel
theorem dX5_tellRule_8 : decode cX5_tellRule 8 = .ok (.iload_n 3, 1) := by decide +kernel
theorem dX5_tellRule_9 : decode cX5_tellRule 9 = .ok (.getstatic 136, 3) := by decide +kernel
theorem dX5_tellRule_12 : decode cX5_tellRule 12 = .ok (.iconst 4, 1) := by decide +kernel
theorem dX5_tellRule_13 : decode cX5_tellRule 13 = .ok (.iaload, 1) := by decide +kernel
theorem dX5_tellRule_14 : decode cX5_tellRule 14 = .ok (.getstatic 140, 3) := by decide +kernel
theorem dX5_tellRule_17 : decode cX5_tellRule 17 = .ok (.iconst 4, 1) := by decide +kernel
theorem dX5_tellRule_18 : decode cX5_tellRule 18 = .ok (.iaload, 1) := by decide +kernel
theorem dX5_tellRule_19 : decode cX5_tellRule 19 = .ok (.invokestatic 143, 3) := by decide +kernel
theorem dX5_tellRule_22 : decode cX5_tellRule 22 = .ok (.ifCond .eq 5, 3) := by decide +kernel
theorem dX5_tellRule_25 : decode cX5_tellRule 25 = .ok (.iconst 0, 1) := by decide +kernel
theorem dX5_tellRule_26 : decode cX5_tellRule 26 = .ok (.ireturn, 1) := by decide +kernel
theorem dX5_tellRule_27 : decode cX5_tellRule 27 = .ok (.aload_n 1, 1) := by decide +kernel
theorem dX5_tellRule_28 : decode cX5_tellRule 28 = .ok (.getfield 147, 3) := by decide +kernel
theorem dX5_tellRule_31 : decode cX5_tellRule 31 = .ok (.aload_n 0, 1) := by decide +kernel
theorem dX5_tellRule_32 : decode cX5_tellRule 32 = .ok (.ldc 151, 2) := by decide +kernel
theorem dX5_tellRule_34 : decode cX5_tellRule 34 = .ok (.iload_n 2, 1) := by decide +kernel
theorem dX5_tellRule_35 : decode cX5_tellRule 35 = .ok (.iconst 1, 1) := by decide +kernel
theorem dX5_tellRule_36 : decode cX5_tellRule 36 = .ok (.iadd, 1) := by decide +kernel
theorem dX5_tellRule_37 : decode cX5_tellRule 37 = .ok (.invokevirtual 84, 3) := by decide +kernel
theorem dX5_tellRule_40 : decode cX5_tellRule 40 = .ok (.putfield 153, 3) := by decide +kernel
theorem dX5_tellRule_43 : decode cX5_tellRule 43 = .ok (.aload_n 1, 1) := by decide +kernel
theorem dX5_tellRule_44 : decode cX5_tellRule 44 = .ok (.getfield 147, 3) := by decide +kernel
theorem dX5_tellRule_47 : decode cX5_tellRule 47 = .ok (.iload_n 3, 1) := by decide +kernel
theorem dX5_tellRule_48 : decode cX5_tellRule 48 = .ok (.putfield 156, 3) := by decide +kernel
theorem dX5_tellRule_51 : decode cX5_tellRule 51 = .ok (.aload_n 1, 1) := by decide +kernel
theorem dX5_tellRule_52 : decode cX5_tellRule 52 = .ok (.getfield 147, 3) := by decide +kernel
theorem dX5_tellRule_55 : decode cX5_tellRule 55 = .ok (.aload_n 0, 1) := by decide +kernel
theorem dX5_tellRule_56 : decode cX5_tellRule 56 = .ok (.iload_n 2, 1) := by decide +kernel
theorem dX5_tellRule_57 : decode cX5_tellRule 57 = .ok (.iconst 4, 1) := by decide +kernel
theorem dX5_tellRule_58 : decode cX5_tellRule 58 = .ok (.iadd, 1) := by decide +kernel
theorem dX5_tellRule_59 : decode cX5_tellRule 59 = .ok (.invokevirtual 93, 3) := by decide +kernel
theorem dX5_tellRule_62 : decode cX5_tellRule 62 = .ok (.putfield 159, 3) := by decide +kernel
theorem dX5_tellRule_65 : decode cX5_tellRule 65 = .ok (.iconst 1, 1) := by decide +kernel
theorem dX5_tellRule_66 : decode cX5_tellRule 66 = .ok (.ireturn, 1) := by decide +kernel
theorem dX5_tellMinutes_0 : decode cX5_tellMinutes 0 = .ok (.aload_n 0, 1) := by decide +kernel
theorem dX5_tellMinutes_1 : decode cX5_tellMinutes 1 = .ok (.iload_n 2, 1) := by decide +kernel
theorem dX5_tellMinutes_2 : decode cX5_tellMinutes 2 = .ok (.iconst 1, 1) := by decide +kernel
theorem dX5_tellMinutes_3 : decode cX5_tellMinutes 3 = .ok (.iadd, 1) := by decide +kernel
theorem dX5_tellMinutes_4 : decode cX5_tellMinutes 4 = .ok (.invokevirtual 62, 3) := by decide +kernel
theorem dX5_tellMinutes_7 : decode cX5_tellMinutes 7 = .ok (.istore 4, 2) := by decide +kernel
theorem dX5_tellMinutes_9 : decode cX5_tellMinutes 9 = .ok (.iload 4, 2) := by decide +kernel
theorem dX5_tellMinutes_11 : decode cX5_tellMinutes 11 = .ok (.iconst 1, 1) := by decide +kernel
theorem dX5_tellMinutes_12 : decode cX5_tellMinutes 12 = .ok (.if_icmp .lt 23, 3) := by decide +kernel
theorem dX5_tellMinutes_15 : decode cX5_tellMinutes 15 = .ok (.iload 4, 2) := by decide +kernel
theorem dX5_tellMinutes_17 : decode cX5_tellMinutes 17 = .ok (.bipush 60, 2) := by decide +kernel
theorem dX5_tellMinutes_19 : decode cX5_tellMinutes 19 = .ok (.if_icmp .gt 16, 3) := by decide +kernel
theorem dX5_tellMinutes_22 : decode cX5_tellMinutes 22 = .ok (.aload_n 1, 1) := by decide +kernel
theorem dX5_tellMinutes_23 : decode cX5_tellMinutes 23 = .ok (.getfield 162, 3) := by decide +kernel
theorem dX5_tellMinutes_26 : decode cX5_tellMinutes 26 = .ok (.iload 4, 2) := by decide +kernel
theorem dX5_tellMinutes_28 : decode cX5_tellMinutes 28 = .ok (.iadd, 1) := by decide +kernel
theorem dX5_tellMinutes_29 : decode cX5_tellMinutes 29 = .ok (.sipush 9999, 3) := by decide +kernel
theorem dX5_tellMinutes_32 : decode cX5_tellMinutes 32 = .ok (.if_icmp .le 5, 3) := by decide +kernel
theorem dX5_tellMinutes_35 : decode cX5_tellMinutes 35 = .ok (.iconst 0, 1) := by decide +kernel
theorem dX5_tellMinutes_36 : decode cX5_tellMinutes 36 = .ok (.ireturn, 1) := by decide +kernel
theorem dX5_tellMinutes_37 : decode cX5_tellMinutes 37 = .ok (.aload_n 1, 1) := by decide +kernel
theorem dX5_tellMinutes_38 : decode cX5_tellMinutes 38 = .ok (.iload 4, 2) := by decide +kernel
theorem dX5_tellMinutes_40 : decode cX5_tellMinutes 40 = .ok (.iconst 1, 1) := by decide +kernel
theorem dX5_tellMinutes_41 : decode cX5_tellMinutes 41 = .ok (.aload_n 3, 1) := by decide +kernel
theorem dX5_tellMinutes_42 : decode cX5_tellMinutes 42 = .ok (.invokevirtual 165, 3) := by decide +kernel
theorem dX5_tellMinutes_45 : decode cX5_tellMinutes 45 = .ok (.iconst 1, 1) := by decide +kernel
theorem dX5_tellMinutes_46 : decode cX5_tellMinutes 46 = .ok (.ireturn, 1) := by decide +kernel
theorem dX5_fits_0 : decode cX5_fits 0 = .ok (.iload_n 0, 1) := by decide +kernel
theorem dX5_fits_1 : decode cX5_fits 1 = .ok (.lookupswitch 132 #[(35, 51), (43, 69), (68, 102), (80, 87), (82, 117)], 51) := by decide +kernel
theorem dX5_fits_52 : decode cX5_fits 52 = .ok (.iload_n 1, 1) := by decide +kernel
theorem dX5_fits_53 : decode cX5_fits 53 = .ok (.bipush 48, 2) := by decide +kernel
theorem dX5_fits_55 : decode cX5_fits 55 = .ok (.if_icmp .lt 13, 3) := by decide +kernel
theorem dX5_fits_58 : decode cX5_fits 58 = .ok (.iload_n 1, 1) := by decide +kernel
theorem dX5_fits_59 : decode cX5_fits 59 = .ok (.bipush 57, 2) := by decide +kernel
theorem dX5_fits_61 : decode cX5_fits 61 = .ok (.if_icmp .gt 7, 3) := by decide +kernel
theorem dX5_fits_64 : decode cX5_fits 64 = .ok (.iconst 1, 1) := by decide +kernel
theorem dX5_fits_65 : decode cX5_fits 65 = .ok (.goto 4, 3) := by decide +kernel
theorem dX5_fits_68 : decode cX5_fits 68 = .ok (.iconst 0, 1) := by decide +kernel
theorem dX5_fits_69 : decode cX5_fits 69 = .ok (.ireturn, 1) := by decide +kernel
theorem dX5_fits_70 : decode cX5_fits 70 = .ok (.iload_n 1, 1) := by decide +kernel
theorem dX5_fits_71 : decode cX5_fits 71 = .ok (.bipush 43, 2) := by decide +kernel
theorem dX5_fits_73 : decode cX5_fits 73 = .ok (.if_icmp .eq 9, 3) := by decide +kernel
theorem dX5_fits_76 : decode cX5_fits 76 = .ok (.iload_n 1, 1) := by decide +kernel
theorem dX5_fits_77 : decode cX5_fits 77 = .ok (.bipush 45, 2) := by decide +kernel
theorem dX5_fits_79 : decode cX5_fits 79 = .ok (.if_icmp .ne 7, 3) := by decide +kernel
theorem dX5_fits_82 : decode cX5_fits 82 = .ok (.iconst 1, 1) := by decide +kernel
theorem dX5_fits_83 : decode cX5_fits 83 = .ok (.goto 4, 3) := by decide +kernel
theorem dX5_fits_86 : decode cX5_fits 86 = .ok (.iconst 0, 1) := by decide +kernel
theorem dX5_fits_87 : decode cX5_fits 87 = .ok (.ireturn, 1) := by decide +kernel
theorem dX5_fits_88 : decode cX5_fits 88 = .ok (.ldc 113, 2) := by decide +kernel
theorem dX5_fits_90 : decode cX5_fits 90 = .ok (.iload_n 1, 1) := by decide +kernel
theorem dX5_fits_91 : decode cX5_fits 91 = .ok (.invokevirtual 169, 3) := by decide +kernel
theorem dX5_fits_94 : decode cX5_fits 94 = .ok (.ifCond .lt 7, 3) := by decide +kernel
theorem dX5_fits_97 : decode cX5_fits 97 = .ok (.iconst 1, 1) := by decide +kernel
theorem dX5_fits_98 : decode cX5_fits 98 = .ok (.goto 4, 3) := by decide +kernel
theorem dX5_fits_101 : decode cX5_fits 101 = .ok (.iconst 0, 1) := by decide +kernel
theorem dX5_fits_102 : decode cX5_fits 102 = .ok (.ireturn, 1) := by decide +kernel
theorem dX5_fits_103 : decode cX5_fits 103 = .ok (.ldc 82, 2) := by decide +kernel
theorem dX5_fits_105 : decode cX5_fits 105 = .ok (.iload_n 1, 1) := by decide +kernel
theorem dX5_fits_106 : decode cX5_fits 106 = .ok (.invokevirtual 169, 3) := by decide +kernel
theorem dX5_fits_109 : decode cX5_fits 109 = .ok (.ifCond .lt 7, 3) := by decide +kernel
theorem dX5_fits_112 : decode cX5_fits 112 = .ok (.iconst 1, 1) := by decide +kernel
theorem dX5_fits_113 : decode cX5_fits 113 = .ok (.goto 4, 3) := by decide +kernel
theorem dX5_fits_116 : decode cX5_fits 116 = .ok (.iconst 0, 1) := by decide +kernel
theorem dX5_fits_117 : decode cX5_fits 117 = .ok (.ireturn, 1) := by decide +kernel
theorem dX5_fits_118 : decode cX5_fits 118 = .ok (.ldc 151, 2) := by decide +kernel
theorem dX5_fits_120 : decode cX5_fits 120 = .ok (.iload_n 1, 1) := by decide +kernel
theorem dX5_fits_121 : decode cX5_fits 121 = .ok (.invokevirtual 169, 3) := by decide +kernel
theorem dX5_fits_124 : decode cX5_fits 124 = .ok (.ifCond .lt 7, 3) := by decide +kernel
theorem dX5_fits_127 : decode cX5_fits 127 = .ok (.iconst 1, 1) := by decide +kernel
theorem dX5_fits_128 : decode cX5_fits 128 = .ok (.goto 4, 3) := by decide +kernel
theorem dX5_fits_131 : decode cX5_fits 131 = .ok (.iconst 0, 1) := by decide +kernel
theorem dX5_fits_132 : decode cX5_fits 132 = .ok (.ireturn, 1) := by decide +kernel
theorem dX5_fits_133 : decode cX5_fits 133 = .ok (.iload_n 1, 1) := by decide +kernel
theorem dX5_fits_134 : decode cX5_fits 134 = .ok (.iload_n 0, 1) := by decide +kernel
theorem dX5_fits_135 : decode cX5_fits 135 = .ok (.if_icmp .ne 7, 3) := by decide +kernel
theorem dX5_fits_138 : decode cX5_fits 138 = .ok (.iconst 1, 1) := by decide +kernel
theorem dX5_fits_139 : decode cX5_fits 139 = .ok (.goto 4, 3) := by decide +kernel
theorem dX5_fits_142 : decode cX5_fits 142 = .ok (.iconst 0, 1) := by decide +kernel
theorem dX5_fits_143 : decode cX5_fits 143 = .ok (.ireturn, 1) := by decide +kernel
theorem dX5_signAt_0 : decode cX5_signAt 0 = .ok (.iload_n 1, 1) := by decide +kernel
theorem dX5_signAt_1 : decode cX5_signAt 1 = .ok (.ifCond .lt 26, 3) := by decide +kernel
theorem dX5_signAt_4 : decode cX5_signAt 4 = .ok (.iload_n 1, 1) := by decide +kernel
theorem dX5_signAt_5 : decode cX5_signAt 5 = .ok (.aload_n 0, 1) := by decide +kernel
theorem dX5_signAt_6 : decode cX5_signAt 6 = .ok (.getfield 15, 3) := by decide +kernel
theorem dX5_signAt_9 : decode cX5_signAt 9 = .ok (.if_icmp .ge 18, 3) := by decide +kernel
theorem dX5_signAt_12 : decode cX5_signAt 12 = .ok (.iload_n 1, 1) := by decide +kernel
theorem dX5_signAt_13 : decode cX5_signAt 13 = .ok (.bipush 96, 2) := by decide +kernel
theorem dX5_signAt_15 : decode cX5_signAt 15 = .ok (.if_icmp .ge 12, 3) := by decide +kernel
theorem dX5_signAt_18 : decode cX5_signAt 18 = .ok (.aload_n 0, 1) := by decide +kernel
theorem dX5_signAt_19 : decode cX5_signAt 19 = .ok (.getfield 9, 3) := by decide +kernel
theorem dX5_signAt_22 : decode cX5_signAt 22 = .ok (.iload_n 1, 1) := by decide +kernel
theorem dX5_signAt_23 : decode cX5_signAt 23 = .ok (.caload, 1) := by decide +kernel
theorem dX5_signAt_24 : decode cX5_signAt 24 = .ok (.goto 4, 3) := by decide +kernel
theorem dX5_signAt_27 : decode cX5_signAt 27 = .ok (.iconst 0, 1) := by decide +kernel
theorem dX5_signAt_28 : decode cX5_signAt 28 = .ok (.ireturn, 1) := by decide +kernel
theorem dX5_digitAt_0 : decode cX5_digitAt 0 = .ok (.aload_n 0, 1) := by decide +kernel
theorem dX5_digitAt_1 : decode cX5_digitAt 1 = .ok (.iload_n 1, 1) := by decide +kernel
theorem dX5_digitAt_2 : decode cX5_digitAt 2 = .ok (.invokevirtual 19, 3) := by decide +kernel
theorem dX5_digitAt_5 : decode cX5_digitAt 5 = .ok (.bipush 48, 2) := by decide +kernel
theorem dX5_digitAt_7 : decode cX5_digitAt 7 = .ok (.isub, 1) := by decide +kernel
theorem dX5_digitAt_8 : decode cX5_digitAt 8 = .ok (.ireturn, 1) := by decide +kernel
theorem dX5_numberAt_0 : decode cX5_numberAt 0 = .ok (.bipush 10, 2) := by decide +kernel
theorem dX5_numberAt_2 : decode cX5_numberAt 2 = .ok (.aload_n 0, 1) := by decide +kernel
theorem dX5_numberAt_3 : decode cX5_numberAt 3 = .ok (.iload_n 1, 1) := by decide +kernel
theorem dX5_numberAt_4 : decode cX5_numberAt 4 = .ok (.invokevirtual 93, 3) := by decide +kernel
theorem dX5_numberAt_7 : decode cX5_numberAt 7 = .ok (.imul, 1) := by decide +kernel
theorem dX5_numberAt_8 : decode cX5_numberAt 8 = .ok (.aload_n 0, 1) := by decide +kernel
theorem dX5_numberAt_9 : decode cX5_numberAt 9 = .ok (.iload_n 1, 1) := by decide +kernel
theorem dX5_numberAt_10 : decode cX5_numberAt 10 = .ok (.iconst 1, 1) := by decide +kernel
theorem dX5_numberAt_11 : decode cX5_numberAt 11 = .ok (.iadd, 1) := by decide +kernel
theorem dX5_numberAt_12 : decode cX5_numberAt 12 = .ok (.invokevirtual 93, 3) := by decide +kernel
theorem dX5_numberAt_15 : decode cX5_numberAt 15 = .ok (.iadd, 1) := by decide +kernel
theorem dX5_numberAt_16 : decode cX5_numberAt 16 = .ok (.ireturn, 1) := by decide +kernel
theorem dX5_signedAt_0 : decode cX5_signedAt 0 = .ok (.aload_n 0, 1) := by decide +kernel
theorem dX5_signedAt_1 : decode cX5_signedAt 1 = .ok (.iload_n 1, 1) := by decide +kernel
theorem dX5_signedAt_2 : decode cX5_signedAt 2 = .ok (.invokevirtual 19, 3) := by decide +kernel
theorem dX5_signedAt_5 : decode cX5_signedAt 5 = .ok (.bipush 45, 2) := by decide +kernel
theorem dX5_signedAt_7 : decode cX5_signedAt 7 = .ok (.if_icmp .ne 8, 3) := by decide +kernel
theorem dX5_signedAt_10 : decode cX5_signedAt 10 = .ok (.iload_n 2, 1) := by decide +kernel
theorem dX5_signedAt_11 : decode cX5_signedAt 11 = .ok (.ineg, 1) := by decide +kernel
theorem dX5_signedAt_12 : decode cX5_signedAt 12 = .ok (.goto 4, 3) := by decide +kernel
theorem dX5_signedAt_15 : decode cX5_signedAt 15 = .ok (.iload_n 2, 1) := by decide +kernel
theorem dX5_signedAt_16 : decode cX5_signedAt 16 = .ok (.ireturn, 1) := by decide +kernel
theorem dX5_kindAt_0 : decode cX5_kindAt 0 = .ok (.aload_n 1, 1) := by decide +kernel
theorem dX5_kindAt_1 : decode cX5_kindAt 1 = .ok (.aload_n 0, 1) := by decide +kernel
theorem dX5_kindAt_2 : decode cX5_kindAt 2 = .ok (.iload_n 2, 1) := by decide +kernel
theorem dX5_kindAt_3 : decode cX5_kindAt 3 = .ok (.invokevirtual 19, 3) := by decide +kernel
theorem dX5_kindAt_6 : decode cX5_kindAt 6 = .ok (.invokevirtual 169, 3) := by decide +kernel
theorem dX5_kindAt_9 : decode cX5_kindAt 9 = .ok (.ireturn, 1) := by decide +kernel
theorem dX6_init_0 : decode cX6_init 0 = .ok (.aload_n 0, 1) := by decide +kernel
theorem dX6_init_1 : decode cX6_init 1 = .ok (.invokespecial 1, 3) := by decide +kernel
theorem dX6_init_4 : decode cX6_init 4 = .ok (.aload_n 0, 1) := by decide +kernel
theorem dX6_init_5 : decode cX6_init 5 = .ok (.new 7, 3) := by decide +kernel
theorem dX6_init_8 : decode cX6_init 8 = .ok (.dup, 1) := by decide +kernel
theorem dX6_init_9 : decode cX6_init 9 = .ok (.invokespecial 9, 3) := by decide +kernel
theorem dX6_init_12 : decode cX6_init 12 = .ok (.putfield 10, 3) := by decide +kernel
theorem dX6_init_15 : decode cX6_init 15 = .ok (.aload_n 0, 1) := by decide +kernel
theorem dX6_init_16 : decode cX6_init 16 = .ok (.new 7, 3) := by decide +kernel
theorem dX6_init_19 : decode cX6_init 19 = .ok (.dup, 1) := by decide +kernel
theorem dX6_init_20 : decode cX6_init 20 = .ok (.invokespecial 9, 3) := by decide +kernel
theorem dX6_init_23 : decode cX6_init 23 = .ok (.putfield 16, 3) := by decide +kernel
theorem dX6_init_26 : decode cX6_init 26 = .ok (.aload_n 0, 1) := by decide +kernel
theorem dX6_init_27 : decode cX6_init 27 = .ok (.new 7, 3) := by decide +kernel
theorem dX6_init_30 : decode cX6_init 30 = .ok (.dup, 1) := by decide +kernel
theorem dX6_init_31 : decode cX6_init 31 = .ok (.invokespecial 9, 3) := by decide +kernel
theorem dX6_init_34 : decode cX6_init 34 = .ok (.putfield 19, 3) := by decide +kernel
theorem dX6_init_37 : decode cX6_init 37 = .ok (.aload_n 0, 1) := by decide +kernel
theorem dX6_init_38 : decode cX6_init 38 = .ok (.new 22, 3) := by decide +kernel
theorem dX6_init_41 : decode cX6_init 41 = .ok (.dup, 1) := by decide +kernel
theorem dX6_init_42 : decode cX6_init 42 = .ok (.invokespecial 24, 3) := by decide +kernel
theorem dX6_init_45 : decode cX6_init 45 = .ok (.putfield 25, 3) := by decide +kernel
theorem dX6_init_48 : decode cX6_init 48 = .ok (.aload_n 0, 1) := by decide +kernel
theorem dX6_init_49 : decode cX6_init 49 = .ok (.new 29, 3) := by decide +kernel
theorem dX6_init_52 : decode cX6_init 52 = .ok (.dup, 1) := by decide +kernel
theorem dX6_init_53 : decode cX6_init 53 = .ok (.invokespecial 31, 3) := by decide +kernel
theorem dX6_init_56 : decode cX6_init 56 = .ok (.putfield 32, 3) := by decide +kernel
theorem dX6_init_59 : decode cX6_init 59 = .ok (.aload_n 0, 1) := by decide +kernel
theorem dX6_init_60 : decode cX6_init 60 = .ok (.bipush 12, 2) := by decide +kernel
theorem dX6_init_62 : decode cX6_init 62 = .ok (.newarray .int, 2) := by decide +kernel
theorem dX6_init_64 : decode cX6_init 64 = .ok (.putfield 36, 3) := by decide +kernel
theorem dX6_init_67 : decode cX6_init 67 = .ok (.aload_n 0, 1) := by decide +kernel
theorem dX6_init_68 : decode cX6_init 68 = .ok (.bipush 7, 2) := by decide +kernel
theorem dX6_init_70 : decode cX6_init 70 = .ok (.newarray .int, 2) := by decide +kernel
theorem dX6_init_72 : decode cX6_init 72 = .ok (.putfield 40, 3) := by decide +kernel
theorem dX6_init_75 : decode cX6_init 75 = .ok (.return_, 1) := by decide +kernel
theorem dX6_letter_0 : decode cX6_letter 0 = .ok (.iload_n 1, 1) := by decide +kernel
theorem dX6_letter_1 : decode cX6_letter 1 = .ok (.iconst 0, 1) := by decide +kernel
theorem dX6_letter_2 : decode cX6_letter 2 = .ok (.sipush 255, 3) := by decide +kernel
theorem dX6_letter_5 : decode cX6_letter 5 = .ok (.invokestatic 43, 3) := by decide +kernel
theorem dX6_letter_8 : decode cX6_letter 8 = .ok (.istore_n 2, 1) := by decide +kernel
theorem dX6_letter_9 : decode cX6_letter 9 = .ok (.iload_n 2, 1) := by decide +kernel
theorem dX6_letter_10 : decode cX6_letter 10 = .ok (.ifCond .ne 18, 3) := by decide +kernel
theorem dX6_letter_13 : decode cX6_letter 13 = .ok (.aload_n 0, 1) := by decide +kernel
theorem dX6_letter_14 : decode cX6_letter 14 = .ok (.getfield 32, 3) := by decide +kernel
theorem dX6_letter_17 : decode cX6_letter 17 = .ok (.getfield 47, 3) := by decide +kernel
theorem dX6_letter_20 : decode cX6_letter 20 = .ok (.bipush 96, 2) := by decide +kernel
theorem dX6_letter_22 : decode cX6_letter 22 = .ok (.if_icmp .lt 6, 3) := by decide +kernel
theorem dX6_letter_25 : decode cX6_letter 25 = .ok (.bipush (-6), 2) := by decide +kernel
theorem dX6_letter_27 : decode cX6_letter 27 = .ok (.istore_n 2, 1) := by decide +kernel
theorem dX6_letter_28 : decode cX6_letter 28 = .ok (.iload_n 2, 1) := by decide +kernel
theorem dX6_letter_29 : decode cX6_letter 29 = .ok (.ifCond .eq 9, 3) := by decide +kernel
theorem dX6_letter_32 : decode cX6_letter 32 = .ok (.aload_n 0, 1) := by decide +kernel
theorem dX6_letter_33 : decode cX6_letter 33 = .ok (.iload_n 2, 1) := by decide +kernel
theorem dX6_letter_34 : decode cX6_letter 34 = .ok (.invokevirtual 51, 3) := by decide +kernel
theorem dX6_letter_37 : decode cX6_letter 37 = .ok (.ireturn, 1) := by decide +kernel
theorem dX6_letter_38 : decode cX6_letter 38 = .ok (.aload_n 0, 1) := by decide +kernel
theorem dX6_letter_39 : decode cX6_letter 39 = .ok (.getfield 32, 3) := by decide +kernel
theorem dX6_letter_42 : decode cX6_letter 42 = .ok (.iload_n 1, 1) := by decide +kernel
theorem dX6_letter_43 : decode cX6_letter 43 = .ok (.i2c, 1) := by decide +kernel
theorem dX6_letter_44 : decode cX6_letter 44 = .ok (.invokevirtual 55, 3) := by decide +kernel
theorem dX6_letter_47 : decode cX6_letter 47 = .ok (.aload_n 0, 1) := by decide +kernel
theorem dX6_letter_48 : decode cX6_letter 48 = .ok (.getfield 32, 3) := by decide +kernel
theorem dX6_letter_51 : decode cX6_letter 51 = .ok (.getfield 47, 3) := by decide +kernel
theorem dX6_letter_54 : decode cX6_letter 54 = .ok (.ireturn, 1) := by decide +kernel
theorem dX6_parlour_0 : decode cX6_parlour 0 = .ok (.aload_n 0, 1) := by decide +kernel
theorem dX6_parlour_1 : decode cX6_parlour 1 = .ok (.getfield 32, 3) := by decide +kernel
theorem dX6_parlour_4 : decode cX6_parlour 4 = .ok (.invokevirtual 59, 3) := by decide +kernel
theorem dX6_parlour_7 : decode cX6_parlour 7 = .ok (.istore_n 1, 1) := by decide +kernel
theorem dX6_parlour_8 : decode cX6_parlour 8 = .ok (.iload_n 1, 1) := by decide +kernel
theorem dX6_parlour_9 : decode cX6_parlour 9 = .ok (.bipush (-9), 2) := by decide +kernel
theorem dX6_parlour_11 : decode cX6_parlour 11 = .ok (.if_icmp .ne 10, 3) := by decide +kernel
theorem dX6_parlour_14 : decode cX6_parlour 14 = .ok (.aload_n 0, 1) := by decide +kernel
theorem dX6_parlour_15 : decode cX6_parlour 15 = .ok (.invokevirtual 63, 3) := by decide +kernel
theorem dX6_parlour_18 : decode cX6_parlour 18 = .ok (.goto 8, 3) := by decide +kernel
theorem dX6_parlour_21 : decode cX6_parlour 21 = .ok (.sipush (-1000), 3) := by decide +kernel
theorem dX6_parlour_24 : decode cX6_parlour 24 = .ok (.iload_n 1, 1) := by decide +kernel
theorem dX6_parlour_25 : decode cX6_parlour 25 = .ok (.isub, 1) := by decide +kernel
theorem dX6_parlour_26 : decode cX6_parlour 26 = .ok (.istore_n 2, 1) := by decide +kernel
theorem dX6_parlour_27 : decode cX6_parlour 27 = .ok (.aload_n 0, 1) := by decide +kernel
theorem dX6_parlour_28 : decode cX6_parlour 28 = .ok (.getfield 32, 3) := by decide +kernel
theorem dX6_parlour_31 : decode cX6_parlour 31 = .ok (.iconst 0, 1) := by decide +kernel
theorem dX6_parlour_32 : decode cX6_parlour 32 = .ok (.putfield 47, 3) := by decide +kernel
theorem dX6_parlour_35 : decode cX6_parlour 35 = .ok (.iload_n 2, 1) := by decide +kernel
theorem dX6_parlour_36 : decode cX6_parlour 36 = .ok (.ireturn, 1) := by decide +kernel
theorem dX6_person_0 : decode cX6_person 0 = .ok (.aload_n 0, 1) := by decide +kernel
theorem dX6_person_1 : decode cX6_person 1 = .ok (.getfield 10, 3) := by decide +kernel
theorem dX6_person_4 : decode cX6_person 4 = .ok (.iload_n 1, 1) := by decide +kernel
theorem dX6_person_5 : decode cX6_person 5 = .ok (.invokevirtual 66, 3) := by decide +kernel
theorem dX6_person_8 : decode cX6_person 8 = .ok (.ifCond .ne 9, 3) := by decide +kernel
theorem dX6_person_11 : decode cX6_person 11 = .ok (.aload_n 0, 1) := by decide +kernel
theorem dX6_person_12 : decode cX6_person 12 = .ok (.iconst (-1), 1) := by decide +kernel
theorem dX6_person_13 : decode cX6_person 13 = .ok (.invokevirtual 51, 3) := by decide +kernel
theorem dX6_person_16 : decode cX6_person 16 = .ok (.ireturn, 1) := by decide +kernel
theorem dX6_person_17 : decode cX6_person 17 = .ok (.iload_n 2, 1) := by decide +kernel
theorem dX6_person_18 : decode cX6_person 18 = .ok (.ifCond .lt 8, 3) := by decide +kernel
theorem dX6_person_21 : decode cX6_person 21 = .ok (.iload_n 2, 1) := by decide +kernel
theorem dX6_person_22 : decode cX6_person 22 = .ok (.iconst 5, 1) := by decide +kernel
theorem dX6_person_23 : decode cX6_person 23 = .ok (.if_icmp .le 10, 3) := by decide +kernel
theorem dX6_person_26 : decode cX6_person 26 = .ok (.aload_n 0, 1) := by decide +kernel
theorem dX6_person_27 : decode cX6_person 27 = .ok (.bipush (-2), 2) := by decide +kernel
theorem dX6_person_29 : decode cX6_person 29 = .ok (.invokevirtual 51, 3) := by decide +kernel
theorem dX6_person_32 : decode cX6_person 32 = .ok (.ireturn, 1) := by decide +kernel
theorem dX6_person_33 : decode cX6_person 33 = .ok (.aload_n 0, 1) := by decide +kernel
theorem dX6_person_34 : decode cX6_person 34 = .ok (.getfield 10, 3) := by decide +kernel
theorem dX6_person_37 : decode cX6_person 37 = .ok (.getfield 70, 3) := by decide +kernel
theorem dX6_person_40 : decode cX6_person 40 = .ok (.iload_n 1, 1) := by decide +kernel
theorem dX6_person_41 : decode cX6_person 41 = .ok (.aaload, 1) := by decide +kernel
theorem dX6_person_42 : decode cX6_person 42 = .ok (.iload_n 2, 1) := by decide +kernel
theorem dX6_person_43 : decode cX6_person 43 = .ok (.invokevirtual 74, 3) := by decide +kernel
theorem dX6_person_46 : decode cX6_person 46 = .ok (.ireturn, 1) := by decide +kernel
theorem dX6_bothers_0 : decode cX6_bothers 0 = .ok (.aload_n 0, 1) := by decide +kernel
theorem dX6_bothers_1 : decode cX6_bothers 1 = .ok (.getfield 10, 3) := by decide +kernel
theorem dX6_bothers_4 : decode cX6_bothers 4 = .ok (.iload_n 1, 1) := by decide +kernel
theorem dX6_bothers_5 : decode cX6_bothers 5 = .ok (.invokevirtual 66, 3) := by decide +kernel
theorem dX6_bothers_8 : decode cX6_bothers 8 = .ok (.ifCond .eq 14, 3) := by decide +kernel
theorem dX6_bothers_11 : decode cX6_bothers 11 = .ok (.iload_n 2, 1) := by decide +kernel
theorem dX6_bothers_12 : decode cX6_bothers 12 = .ok (.iconst 0, 1) := by decide +kernel
theorem dX6_bothers_13 : decode cX6_bothers 13 = .ok (.sipush 199, 3) := by decide +kernel
theorem dX6_bothers_16 : decode cX6_bothers 16 = .ok (.invokestatic 43, 3) := by decide +kernel
theorem dX6_bothers_19 : decode cX6_bothers 19 = .ok (.goto 4, 3) := by decide +kernel
theorem dX6_bothers_22 : decode cX6_bothers 22 = .ok (.iconst (-1), 1) := by decide +kernel
theorem dX6_bothers_23 : decode cX6_bothers 23 = .ok (.istore_n 3, 1) := by decide +kernel
theorem dX6_bothers_24 : decode cX6_bothers 24 = .ok (.iload_n 3, 1) := by decide +kernel
theorem dX6_bothers_25 : decode cX6_bothers 25 = .ok (.ifCond .eq 9, 3) := by decide +kernel
theorem dX6_bothers_28 : decode cX6_bothers 28 = .ok (.aload_n 0, 1) := by decide +kernel
theorem dX6_bothers_29 : decode cX6_bothers 29 = .ok (.iload_n 3, 1) := by decide +kernel
theorem dX6_bothers_30 : decode cX6_bothers 30 = .ok (.invokevirtual 51, 3) := by decide +kernel
theorem dX6_bothers_33 : decode cX6_bothers 33 = .ok (.ireturn, 1) := by decide +kernel
theorem dX6_bothers_34 : decode cX6_bothers 34 = .ok (.aload_n 0, 1) := by decide +kernel
theorem dX6_bothers_35 : decode cX6_bothers 35 = .ok (.getfield 10, 3) := by decide +kernel
theorem dX6_bothers_38 : decode cX6_bothers 38 = .ok (.getfield 70, 3) := by decide +kernel
theorem dX6_bothers_41 : decode cX6_bothers 41 = .ok (.iload_n 1, 1) := by decide +kernel
theorem dX6_bothers_42 : decode cX6_bothers 42 = .ok (.aaload, 1) := by decide +kernel
theorem dX6_bothers_43 : decode cX6_bothers 43 = .ok (.iload_n 2, 1) := by decide +kernel
theorem dX6_bothers_44 : decode cX6_bothers 44 = .ok (.invokevirtual 79, 3) := by decide +kernel
theorem dX6_bothers_47 : decode cX6_bothers 47 = .ok (.ireturn, 1) := by decide +kernel
theorem dX6_place_0 : decode cX6_place 0 = .ok (.iload_n 1, 1) := by decide +kernel
theorem dX6_place_1 : decode cX6_place 1 = .ok (.ifCond .lt 8, 3) := by decide +kernel
theorem dX6_place_4 : decode cX6_place 4 = .ok (.iload_n 1, 1) := by decide +kernel
theorem dX6_place_5 : decode cX6_place 5 = .ok (.iconst 2, 1) := by decide +kernel
theorem dX6_place_6 : decode cX6_place 6 = .ok (.if_icmp .le 10, 3) := by decide +kernel
theorem dX6_place_9 : decode cX6_place 9 = .ok (.aload_n 0, 1) := by decide +kernel
theorem dX6_place_10 : decode cX6_place 10 = .ok (.bipush (-2), 2) := by decide +kernel
theorem dX6_place_12 : decode cX6_place 12 = .ok (.invokevirtual 82, 3) := by decide +kernel
theorem dX6_place_15 : decode cX6_place 15 = .ok (.ireturn, 1) := by decide +kernel
theorem dX6_place_16 : decode cX6_place 16 = .ok (.aload_n 0, 1) := by decide +kernel
theorem dX6_place_17 : decode cX6_place 17 = .ok (.getfield 10, 3) := by decide +kernel
theorem dX6_place_20 : decode cX6_place 20 = .ok (.iload_n 1, 1) := by decide +kernel
theorem dX6_place_21 : decode cX6_place 21 = .ok (.invokevirtual 85, 3) := by decide +kernel
theorem dX6_place_24 : decode cX6_place 24 = .ok (.ireturn, 1) := by decide +kernel
theorem dX6_set_0 : decode cX6_set 0 = .ok (.iload_n 1, 1) := by decide +kernel
theorem dX6_set_1 : decode cX6_set 1 = .ok (.ifCond .lt 8, 3) := by decide +kernel
theorem dX6_set_4 : decode cX6_set 4 = .ok (.iload_n 1, 1) := by decide +kernel
theorem dX6_set_5 : decode cX6_set 5 = .ok (.iconst 5, 1) := by decide +kernel
theorem dX6_set_6 : decode cX6_set 6 = .ok (.if_icmp .le 10, 3) := by decide +kernel
theorem dX6_set_9 : decode cX6_set 9 = .ok (.aload_n 0, 1) := by decide +kernel
theorem dX6_set_10 : decode cX6_set 10 = .ok (.bipush (-2), 2) := by decide +kernel
theorem dX6_set_12 : decode cX6_set 12 = .ok (.invokevirtual 82, 3) := by decide +kernel
theorem dX6_set_15 : decode cX6_set 15 = .ok (.ireturn, 1) := by decide +kernel
theorem dX6_set_16 : decode cX6_set 16 = .ok (.iload_n 2, 1) := by decide +kernel
theorem dX6_set_17 : decode cX6_set 17 = .ok (.getstatic 88, 3) := by decide +kernel
theorem dX6_set_20 : decode cX6_set 20 = .ok (.iload_n 1, 1) := by decide +kernel
theorem dX6_set_21 : decode cX6_set 21 = .ok (.iaload, 1) := by decide +kernel
theorem dX6_set_22 : decode cX6_set 22 = .ok (.getstatic 91, 3) := by decide +kernel
theorem dX6_set_25 : decode cX6_set 25 = .ok (.iload_n 1, 1) := by decide +kernel
theorem dX6_set_26 : decode cX6_set 26 = .ok (.iaload, 1) := by decide +kernel
theorem dX6_set_27 : decode cX6_set 27 = .ok (.invokestatic 43, 3) := by decide +kernel
theorem dX6_set_30 : decode cX6_set 30 = .ok (.istore_n 3, 1) := by decide +kernel
theorem dX6_set_31 : decode cX6_set 31 = .ok (.iload_n 3, 1) := by decide +kernel
theorem dX6_set_32 : decode cX6_set 32 = .ok (.ifCond .eq 9, 3) := by decide +kernel
theorem dX6_set_35 : decode cX6_set 35 = .ok (.aload_n 0, 1) := by decide +kernel
theorem dX6_set_36 : decode cX6_set 36 = .ok (.iload_n 3, 1) := by decide +kernel
theorem dX6_set_37 : decode cX6_set 37 = .ok (.invokevirtual 82, 3) := by decide +kernel
theorem dX6_set_40 : decode cX6_set 40 = .ok (.ireturn, 1) := by decide +kernel
theorem dX6_set_41 : decode cX6_set 41 = .ok (.aload_n 0, 1) := by decide +kernel
theorem dX6_set_42 : decode cX6_set 42 = .ok (.getfield 10, 3) := by decide +kernel
theorem dX6_set_45 : decode cX6_set 45 = .ok (.iload_n 1, 1) := by decide +kernel
theorem dX6_set_46 : decode cX6_set 46 = .ok (.iload_n 2, 1) := by decide +kernel
theorem dX6_set_47 : decode cX6_set 47 = .ok (.invokevirtual 94, 3) := by decide +kernel
theorem dX6_set_50 : decode cX6_set 50 = .ok (.ireturn, 1) := by decide +kernel
theorem dX6_kind_0 : decode cX6_kind 0 = .ok (.iload_n 1, 1) := by decide +kernel
theorem dX6_kind_1 : decode cX6_kind 1 = .ok (.ifCond .lt 17, 3) := by decide +kernel
theorem dX6_kind_4 : decode cX6_kind 4 = .ok (.iload_n 1, 1) := by decide +kernel
theorem dX6_kind_5 : decode cX6_kind 5 = .ok (.iconst 1, 1) := by decide +kernel
theorem dX6_kind_6 : decode cX6_kind 6 = .ok (.if_icmp .gt 12, 3) := by decide +kernel
theorem dX6_kind_9 : decode cX6_kind 9 = .ok (.iload_n 2, 1) := by decide +kernel
theorem dX6_kind_10 : decode cX6_kind 10 = .ok (.ifCond .lt 8, 3) := by decide +kernel
theorem dX6_kind_13 : decode cX6_kind 13 = .ok (.iload_n 2, 1) := by decide +kernel
theorem dX6_kind_14 : decode cX6_kind 14 = .ok (.iconst 5, 1) := by decide +kernel
theorem dX6_kind_15 : decode cX6_kind 15 = .ok (.if_icmp .lt 10, 3) := by decide +kernel
theorem dX6_kind_18 : decode cX6_kind 18 = .ok (.aload_n 0, 1) := by decide +kernel
theorem dX6_kind_19 : decode cX6_kind 19 = .ok (.bipush (-2), 2) := by decide +kernel
theorem dX6_kind_21 : decode cX6_kind 21 = .ok (.invokevirtual 51, 3) := by decide +kernel
theorem dX6_kind_24 : decode cX6_kind 24 = .ok (.ireturn, 1) := by decide +kernel
theorem dX6_kind_25 : decode cX6_kind 25 = .ok (.aload_n 0, 1) := by decide +kernel
theorem dX6_kind_26 : decode cX6_kind 26 = .ok (.getfield 10, 3) := by decide +kernel
theorem dX6_kind_29 : decode cX6_kind 29 = .ok (.iload_n 1, 1) := by decide +kernel
theorem dX6_kind_30 : decode cX6_kind 30 = .ok (.ifCond .ne 8, 3) := by decide +kernel
theorem dX6_kind_33 : decode cX6_kind 33 = .ok (.bipush 6, 2) := by decide +kernel
theorem dX6_kind_35 : decode cX6_kind 35 = .ok (.goto 5, 3) := by decide +kernel
theorem dX6_kind_38 : decode cX6_kind 38 = .ok (.bipush 7, 2) := by decide +kernel
theorem dX6_kind_40 : decode cX6_kind 40 = .ok (.iload_n 2, 1) := by decide +kernel
theorem dX6_kind_41 : decode cX6_kind 41 = .ok (.invokevirtual 94, 3) := by decide +kernel
theorem dX6_kind_44 : decode cX6_kind 44 = .ok (.ireturn, 1) := by decide +kernel
theorem dX6_turn_0 : decode cX6_turn 0 = .ok (.aload_n 0, 1) := by decide +kernel
theorem dX6_turn_1 : decode cX6_turn 1 = .ok (.getfield 10, 3) := by decide +kernel
theorem dX6_turn_4 : decode cX6_turn 4 = .ok (.iload_n 1, 1) := by decide +kernel
theorem dX6_turn_5 : decode cX6_turn 5 = .ok (.invokevirtual 66, 3) := by decide +kernel
theorem dX6_turn_8 : decode cX6_turn 8 = .ok (.ifCond .ne 9, 3) := by decide +kernel
theorem dX6_turn_11 : decode cX6_turn 11 = .ok (.aload_n 0, 1) := by decide +kernel
theorem dX6_turn_12 : decode cX6_turn 12 = .ok (.iconst (-1), 1) := by decide +kernel
theorem dX6_turn_13 : decode cX6_turn 13 = .ok (.invokevirtual 51, 3) := by decide +kernel
theorem dX6_turn_16 : decode cX6_turn 16 = .ok (.ireturn, 1) := by decide +kernel
theorem dX6_turn_17 : decode cX6_turn 17 = .ok (.aload_n 0, 1) := by decide +kernel
theorem dX6_turn_18 : decode cX6_turn 18 = .ok (.getfield 10, 3) := by decide +kernel
theorem dX6_turn_21 : decode cX6_turn 21 = .ok (.bipush 8, 2) := by decide +kernel
theorem dX6_turn_23 : decode cX6_turn 23 = .ok (.iload_n 1, 1) := by decide +kernel
theorem dX6_turn_24 : decode cX6_turn 24 = .ok (.invokevirtual 94, 3) := by decide +kernel
theorem dX6_turn_27 : decode cX6_turn 27 = .ok (.ireturn, 1) := by decide +kernel
theorem dX6_drifts_0 : decode cX6_drifts 0 = .ok (.iload_n 1, 1) := by decide +kernel
theorem dX6_drifts_1 : decode cX6_drifts 1 = .ok (.iconst 0, 1) := by decide +kernel
theorem dX6_drifts_2 : decode cX6_drifts 2 = .ok (.sipush 9999, 3) := by decide +kernel
theorem dX6_drifts_5 : decode cX6_drifts 5 = .ok (.invokestatic 43, 3) := by decide +kernel
theorem dX6_drifts_8 : decode cX6_drifts 8 = .ok (.istore_n 2, 1) := by decide +kernel
theorem dX6_drifts_9 : decode cX6_drifts 9 = .ok (.iload_n 2, 1) := by decide +kernel
theorem dX6_drifts_10 : decode cX6_drifts 10 = .ok (.ifCond .eq 9, 3) := by decide +kernel
theorem dX6_drifts_13 : decode cX6_drifts 13 = .ok (.aload_n 0, 1) := by decide +kernel
theorem dX6_drifts_14 : decode cX6_drifts 14 = .ok (.iload_n 2, 1) := by decide +kernel
theorem dX6_drifts_15 : decode cX6_drifts 15 = .ok (.invokevirtual 82, 3) := by decide +kernel
theorem dX6_drifts_18 : decode cX6_drifts 18 = .ok (.ireturn, 1) := by decide +kernel
theorem dX6_drifts_19 : decode cX6_drifts 19 = .ok (.aload_n 0, 1) := by decide +kernel
theorem dX6_drifts_20 : decode cX6_drifts 20 = .ok (.getfield 10, 3) := by decide +kernel
theorem dX6_drifts_23 : decode cX6_drifts 23 = .ok (.getfield 98, 3) := by decide +kernel
theorem dX6_drifts_26 : decode cX6_drifts 26 = .ok (.iload_n 1, 1) := by decide +kernel
theorem dX6_drifts_27 : decode cX6_drifts 27 = .ok (.invokevirtual 102, 3) := by decide +kernel
theorem dX6_drifts_30 : decode cX6_drifts 30 = .ok (.ireturn, 1) := by decide +kernel
theorem dX6_go_0 : decode cX6_go 0 = .ok (.iload_n 1, 1) := by decide +kernel
theorem dX6_go_1 : decode cX6_go 1 = .ok (.iconst 1, 1) := by decide +kernel
theorem dX6_go_2 : decode cX6_go 2 = .ok (.bipush 60, 2) := by decide +kernel
theorem dX6_go_4 : decode cX6_go 4 = .ok (.invokestatic 43, 3) := by decide +kernel
theorem dX6_go_7 : decode cX6_go 7 = .ok (.istore_n 2, 1) := by decide +kernel
theorem dX6_go_8 : decode cX6_go 8 = .ok (.iload_n 2, 1) := by decide +kernel
theorem dX6_go_9 : decode cX6_go 9 = .ok (.ifCond .ne 21, 3) := by decide +kernel
theorem dX6_go_12 : decode cX6_go 12 = .ok (.aload_n 0, 1) := by decide +kernel
theorem dX6_go_13 : decode cX6_go 13 = .ok (.getfield 10, 3) := by decide +kernel
theorem dX6_go_16 : decode cX6_go 16 = .ok (.getfield 107, 3) := by decide +kernel
theorem dX6_go_19 : decode cX6_go 19 = .ok (.iload_n 1, 1) := by decide +kernel
theorem dX6_go_20 : decode cX6_go 20 = .ok (.iadd, 1) := by decide +kernel
theorem dX6_go_21 : decode cX6_go 21 = .ok (.sipush 9999, 3) := by decide +kernel
theorem dX6_go_24 : decode cX6_go 24 = .ok (.if_icmp .le 6, 3) := by decide +kernel
theorem dX6_go_27 : decode cX6_go 27 = .ok (.bipush (-6), 2) := by decide +kernel
theorem dX6_go_29 : decode cX6_go 29 = .ok (.istore_n 2, 1) := by decide +kernel
theorem dX6_go_30 : decode cX6_go 30 = .ok (.iload_n 2, 1) := by decide +kernel
theorem dX6_go_31 : decode cX6_go 31 = .ok (.ifCond .eq 9, 3) := by decide +kernel
theorem dX6_go_34 : decode cX6_go 34 = .ok (.aload_n 0, 1) := by decide +kernel
theorem dX6_go_35 : decode cX6_go 35 = .ok (.iload_n 2, 1) := by decide +kernel
theorem dX6_go_36 : decode cX6_go 36 = .ok (.invokevirtual 51, 3) := by decide +kernel
theorem dX6_go_39 : decode cX6_go 39 = .ok (.ireturn, 1) := by decide +kernel
theorem dX6_go_40 : decode cX6_go 40 = .ok (.aload_n 0, 1) := by decide +kernel
theorem dX6_go_41 : decode cX6_go 41 = .ok (.getfield 25, 3) := by decide +kernel
theorem dX6_go_44 : decode cX6_go 44 = .ok (.invokevirtual 110, 3) := by decide +kernel
theorem dX6_go_47 : decode cX6_go 47 = .ok (.aload_n 0, 1) := by decide +kernel
theorem dX6_go_48 : decode cX6_go 48 = .ok (.getfield 10, 3) := by decide +kernel
theorem dX6_go_51 : decode cX6_go 51 = .ok (.iload_n 1, 1) := by decide +kernel
theorem dX6_go_52 : decode cX6_go 52 = .ok (.iconst 1, 1) := by decide +kernel
theorem dX6_go_53 : decode cX6_go 53 = .ok (.aload_n 0, 1) := by decide +kernel
theorem dX6_go_54 : decode cX6_go 54 = .ok (.getfield 25, 3) := by decide +kernel
theorem dX6_go_57 : decode cX6_go 57 = .ok (.invokevirtual 113, 3) := by decide +kernel
theorem dX6_go_60 : decode cX6_go 60 = .ok (.aload_n 0, 1) := by decide +kernel
theorem dX6_go_61 : decode cX6_go 61 = .ok (.getfield 25, 3) := by decide +kernel
theorem dX6_go_64 : decode cX6_go 64 = .ok (.invokevirtual 117, 3) := by decide +kernel
theorem dX6_go_67 : decode cX6_go 67 = .ok (.ireturn, 1) := by decide +kernel
theorem dX6_cost_0 : decode cX6_cost 0 = .ok (.iload_n 1, 1) := by decide +kernel
theorem dX6_cost_1 : decode cX6_cost 1 = .ok (.iconst 0, 1) := by decide +kernel
theorem dX6_cost_2 : decode cX6_cost 2 = .ok (.sipush 240, 3) := by decide +kernel
theorem dX6_cost_5 : decode cX6_cost 5 = .ok (.invokestatic 43, 3) := by decide +kernel
theorem dX6_cost_8 : decode cX6_cost 8 = .ok (.istore_n 3, 1) := by decide +kernel
theorem dX6_cost_9 : decode cX6_cost 9 = .ok (.iload_n 3, 1) := by decide +kernel
theorem dX6_cost_10 : decode cX6_cost 10 = .ok (.ifCond .ne 15, 3) := by decide +kernel
theorem dX6_cost_13 : decode cX6_cost 13 = .ok (.iload_n 2, 1) := by decide +kernel
theorem dX6_cost_14 : decode cX6_cost 14 = .ok (.ifCond .lt 8, 3) := by decide +kernel
theorem dX6_cost_17 : decode cX6_cost 17 = .ok (.iload_n 2, 1) := by decide +kernel
theorem dX6_cost_18 : decode cX6_cost 18 = .ok (.iconst 4, 1) := by decide +kernel
theorem dX6_cost_19 : decode cX6_cost 19 = .ok (.if_icmp .le 6, 3) := by decide +kernel
theorem dX6_cost_22 : decode cX6_cost 22 = .ok (.bipush (-2), 2) := by decide +kernel
theorem dX6_cost_24 : decode cX6_cost 24 = .ok (.istore_n 3, 1) := by decide +kernel
theorem dX6_cost_25 : decode cX6_cost 25 = .ok (.iload_n 3, 1) := by decide +kernel
theorem dX6_cost_26 : decode cX6_cost 26 = .ok (.ifCond .eq 9, 3) := by decide +kernel
theorem dX6_cost_29 : decode cX6_cost 29 = .ok (.aload_n 0, 1) := by decide +kernel
theorem dX6_cost_30 : decode cX6_cost 30 = .ok (.iload_n 3, 1) := by decide +kernel
theorem dX6_cost_31 : decode cX6_cost 31 = .ok (.invokevirtual 51, 3) := by decide +kernel
theorem dX6_cost_34 : decode cX6_cost 34 = .ok (.ireturn, 1) := by decide +kernel
theorem dX6_cost_35 : decode cX6_cost 35 = .ok (.aload_n 0, 1) := by decide +kernel
theorem dX6_cost_36 : decode cX6_cost 36 = .ok (.invokevirtual 120, 3) := by decide +kernel
theorem dX6_cost_39 : decode cX6_cost 39 = .ok (.aload_n 0, 1) := by decide +kernel
theorem dX6_cost_40 : decode cX6_cost 40 = .ok (.iload_n 1, 1) := by decide +kernel
theorem dX6_cost_41 : decode cX6_cost 41 = .ok (.iconst 1, 1) := by decide +kernel
theorem dX6_cost_42 : decode cX6_cost 42 = .ok (.invokevirtual 123, 3) := by decide +kernel
theorem dX6_cost_45 : decode cX6_cost 45 = .ok (.pop, 1) := by decide +kernel
theorem dX6_cost_46 : decode cX6_cost 46 = .ok (.aload_n 0, 1) := by decide +kernel
theorem dX6_cost_47 : decode cX6_cost 47 = .ok (.getfield 25, 3) := by decide +kernel
theorem dX6_cost_50 : decode cX6_cost 50 = .ok (.iload_n 2, 1) := by decide +kernel
theorem dX6_cost_51 : decode cX6_cost 51 = .ok (.invokevirtual 127, 3) := by decide +kernel
theorem dX6_cost_54 : decode cX6_cost 54 = .ok (.ireturn, 1) := by decide +kernel
theorem dX6_at_0 : decode cX6_at 0 = .ok (.iload_n 1, 1) := by decide +kernel
theorem dX6_at_1 : decode cX6_at 1 = .ok (.iconst 0, 1) := by decide +kernel
theorem dX6_at_2 : decode cX6_at 2 = .ok (.sipush 240, 3) := by decide +kernel
theorem dX6_at_5 : decode cX6_at 5 = .ok (.invokestatic 43, 3) := by decide +kernel
theorem dX6_at_8 : decode cX6_at 8 = .ok (.istore_n 2, 1) := by decide +kernel
theorem dX6_at_9 : decode cX6_at 9 = .ok (.iload_n 2, 1) := by decide +kernel
theorem dX6_at_10 : decode cX6_at 10 = .ok (.ifCond .eq 9, 3) := by decide +kernel
theorem dX6_at_13 : decode cX6_at 13 = .ok (.aload_n 0, 1) := by decide +kernel
theorem dX6_at_14 : decode cX6_at 14 = .ok (.iload_n 2, 1) := by decide +kernel
theorem dX6_at_15 : decode cX6_at 15 = .ok (.invokevirtual 82, 3) := by decide +kernel
theorem dX6_at_18 : decode cX6_at 18 = .ok (.ireturn, 1) := by decide +kernel
theorem dX6_at_19 : decode cX6_at 19 = .ok (.aload_n 0, 1) := by decide +kernel
theorem dX6_at_20 : decode cX6_at 20 = .ok (.invokevirtual 120, 3) := by decide +kernel
theorem dX6_at_23 : decode cX6_at 23 = .ok (.aload_n 0, 1) := by decide +kernel
theorem dX6_at_24 : decode cX6_at 24 = .ok (.iload_n 1, 1) := by decide +kernel
theorem dX6_at_25 : decode cX6_at 25 = .ok (.iconst 1, 1) := by decide +kernel
theorem dX6_at_26 : decode cX6_at 26 = .ok (.invokevirtual 123, 3) := by decide +kernel
theorem dX6_at_29 : decode cX6_at 29 = .ok (.pop, 1) := by decide +kernel
theorem dX6_at_30 : decode cX6_at 30 = .ok (.aload_n 0, 1) := by decide +kernel
theorem dX6_at_31 : decode cX6_at 31 = .ok (.getfield 16, 3) := by decide +kernel
theorem dX6_at_34 : decode cX6_at 34 = .ok (.getfield 128, 3) := by decide +kernel
theorem dX6_at_37 : decode cX6_at 37 = .ok (.ireturn, 1) := by decide +kernel
theorem dX6_of_0 : decode cX6_of 0 = .ok (.aload_n 0, 1) := by decide +kernel
theorem dX6_of_1 : decode cX6_of 1 = .ok (.getfield 10, 3) := by decide +kernel
theorem dX6_of_4 : decode cX6_of 4 = .ok (.iload_n 1, 1) := by decide +kernel
theorem dX6_of_5 : decode cX6_of 5 = .ok (.invokevirtual 66, 3) := by decide +kernel
theorem dX6_of_8 : decode cX6_of 8 = .ok (.ifCond .eq 14, 3) := by decide +kernel
theorem dX6_of_11 : decode cX6_of 11 = .ok (.iload_n 2, 1) := by decide +kernel
theorem dX6_of_12 : decode cX6_of 12 = .ok (.iconst 0, 1) := by decide +kernel
theorem dX6_of_13 : decode cX6_of 13 = .ok (.sipush 240, 3) := by decide +kernel
theorem dX6_of_16 : decode cX6_of 16 = .ok (.invokestatic 43, 3) := by decide +kernel
theorem dX6_of_19 : decode cX6_of 19 = .ok (.goto 4, 3) := by decide +kernel
theorem dX6_of_22 : decode cX6_of 22 = .ok (.iconst (-1), 1) := by decide +kernel
theorem dX6_of_23 : decode cX6_of 23 = .ok (.istore 4, 2) := by decide +kernel
theorem dX6_of_25 : decode cX6_of 25 = .ok (.iload 4, 2) := by decide +kernel
theorem dX6_of_27 : decode cX6_of 27 = .ok (.ifCond .ne 16, 3) := by decide +kernel
theorem dX6_of_30 : decode cX6_of 30 = .ok (.iload_n 3, 1) := by decide +kernel
theorem dX6_of_31 : decode cX6_of 31 = .ok (.ifCond .lt 8, 3) := by decide +kernel
theorem dX6_of_34 : decode cX6_of 34 = .ok (.iload_n 3, 1) := by decide +kernel
theorem dX6_of_35 : decode cX6_of 35 = .ok (.iconst 2, 1) := by decide +kernel
theorem dX6_of_36 : decode cX6_of 36 = .ok (.if_icmp .le 7, 3) := by decide +kernel
theorem dX6_of_39 : decode cX6_of 39 = .ok (.bipush (-2), 2) := by decide +kernel
theorem dX6_of_41 : decode cX6_of 41 = .ok (.istore 4, 2) := by decide +kernel
theorem dX6_of_43 : decode cX6_of 43 = .ok (.iload 4, 2) := by decide +kernel
theorem dX6_of_45 : decode cX6_of 45 = .ok (.ifCond .eq 10, 3) := by decide +kernel
theorem dX6_of_48 : decode cX6_of 48 = .ok (.aload_n 0, 1) := by decide +kernel
theorem dX6_of_49 : decode cX6_of 49 = .ok (.iload 4, 2) := by decide +kernel
theorem dX6_of_51 : decode cX6_of 51 = .ok (.invokevirtual 51, 3) := by decide +kernel
theorem dX6_of_54 : decode cX6_of 54 = .ok (.ireturn, 1) := by decide +kernel
theorem dX6_of_55 : decode cX6_of 55 = .ok (.aload_n 0, 1) := by decide +kernel
theorem dX6_of_56 : decode cX6_of 56 = .ok (.invokevirtual 120, 3) := by decide +kernel
theorem dX6_of_59 : decode cX6_of 59 = .ok (.aload_n 0, 1) := by decide +kernel
theorem dX6_of_60 : decode cX6_of 60 = .ok (.iload_n 2, 1) := by decide +kernel
theorem dX6_of_61 : decode cX6_of 61 = .ok (.iconst 1, 1) := by decide +kernel
theorem dX6_of_62 : decode cX6_of 62 = .ok (.invokevirtual 123, 3) := by decide +kernel
theorem dX6_of_65 : decode cX6_of 65 = .ok (.pop, 1) := by decide +kernel
theorem dX6_of_66 : decode cX6_of 66 = .ok (.aload_n 0, 1) := by decide +kernel
theorem dX6_of_67 : decode cX6_of 67 = .ok (.getfield 25, 3) := by decide +kernel
theorem dX6_of_70 : decode cX6_of 70 = .ok (.iload_n 1, 1) := by decide +kernel
theorem dX6_of_71 : decode cX6_of 71 = .ok (.iload_n 3, 1) := by decide +kernel
theorem dX6_of_72 : decode cX6_of 72 = .ok (.invokevirtual 131, 3) := by decide +kernel
theorem dX6_of_75 : decode cX6_of 75 = .ok (.ireturn, 1) := by decide +kernel
theorem dX6_best_0 : decode cX6_best 0 = .ok (.iload_n 1, 1) := by decide +kernel
theorem dX6_best_1 : decode cX6_best 1 = .ok (.iconst 0, 1) := by decide +kernel
theorem dX6_best_2 : decode cX6_best 2 = .ok (.sipush 240, 3) := by decide +kernel
theorem dX6_best_5 : decode cX6_best 5 = .ok (.invokestatic 43, 3) := by decide +kernel
theorem dX6_best_8 : decode cX6_best 8 = .ok (.istore_n 3, 1) := by decide +kernel
theorem dX6_best_9 : decode cX6_best 9 = .ok (.iload_n 3, 1) := by decide +kernel
theorem dX6_best_10 : decode cX6_best 10 = .ok (.ifCond .ne 15, 3) := by decide +kernel
theorem dX6_best_13 : decode cX6_best 13 = .ok (.iload_n 2, 1) := by decide +kernel
theorem dX6_best_14 : decode cX6_best 14 = .ok (.ifCond .lt 8, 3) := by decide +kernel
theorem dX6_best_17 : decode cX6_best 17 = .ok (.iload_n 2, 1) := by decide +kernel
theorem dX6_best_18 : decode cX6_best 18 = .ok (.iconst 3, 1) := by decide +kernel
theorem dX6_best_19 : decode cX6_best 19 = .ok (.if_icmp .le 6, 3) := by decide +kernel
theorem dX6_best_22 : decode cX6_best 22 = .ok (.bipush (-2), 2) := by decide +kernel
theorem dX6_best_24 : decode cX6_best 24 = .ok (.istore_n 3, 1) := by decide +kernel
theorem dX6_best_25 : decode cX6_best 25 = .ok (.iload_n 3, 1) := by decide +kernel
theorem dX6_best_26 : decode cX6_best 26 = .ok (.ifCond .eq 9, 3) := by decide +kernel
theorem dX6_best_29 : decode cX6_best 29 = .ok (.aload_n 0, 1) := by decide +kernel
theorem dX6_best_30 : decode cX6_best 30 = .ok (.iload_n 3, 1) := by decide +kernel
theorem dX6_best_31 : decode cX6_best 31 = .ok (.invokevirtual 51, 3) := by decide +kernel
theorem dX6_best_34 : decode cX6_best 34 = .ok (.ireturn, 1) := by decide +kernel
theorem dX6_best_35 : decode cX6_best 35 = .ok (.iload_n 2, 1) := by decide +kernel
theorem dX6_best_36 : decode cX6_best 36 = .ok (.tableswitch 72 0 2 #[28, 45, 62], 28) := by decide +kernel
theorem dX6_best_64 : decode cX6_best 64 = .ok (.aload_n 0, 1) := by decide +kernel
theorem dX6_best_65 : decode cX6_best 65 = .ok (.iload_n 1, 1) := by decide +kernel
theorem dX6_best_66 : decode cX6_best 66 = .ok (.iconst 4, 1) := by decide +kernel
theorem dX6_best_67 : decode cX6_best 67 = .ok (.getstatic 88, 3) := by decide +kernel
theorem dX6_best_70 : decode cX6_best 70 = .ok (.iconst 4, 1) := by decide +kernel
theorem dX6_best_71 : decode cX6_best 71 = .ok (.iaload, 1) := by decide +kernel
theorem dX6_best_72 : decode cX6_best 72 = .ok (.getstatic 91, 3) := by decide +kernel
theorem dX6_best_75 : decode cX6_best 75 = .ok (.iconst 4, 1) := by decide +kernel
theorem dX6_best_76 : decode cX6_best 76 = .ok (.iaload, 1) := by decide +kernel
theorem dX6_best_77 : decode cX6_best 77 = .ok (.invokevirtual 134, 3) := by decide +kernel
theorem dX6_best_80 : decode cX6_best 80 = .ok (.ireturn, 1) := by decide +kernel
theorem dX6_best_81 : decode cX6_best 81 = .ok (.aload_n 0, 1) := by decide +kernel
theorem dX6_best_82 : decode cX6_best 82 = .ok (.iload_n 1, 1) := by decide +kernel
theorem dX6_best_83 : decode cX6_best 83 = .ok (.iconst 5, 1) := by decide +kernel
theorem dX6_best_84 : decode cX6_best 84 = .ok (.getstatic 88, 3) := by decide +kernel
theorem dX6_best_87 : decode cX6_best 87 = .ok (.iconst 5, 1) := by decide +kernel
theorem dX6_best_88 : decode cX6_best 88 = .ok (.iaload, 1) := by decide +kernel
theorem dX6_best_89 : decode cX6_best 89 = .ok (.getstatic 91, 3) := by decide +kernel
theorem dX6_best_92 : decode cX6_best 92 = .ok (.iconst 5, 1) := by decide +kernel
theorem dX6_best_93 : decode cX6_best 93 = .ok (.iaload, 1) := by decide +kernel
theorem dX6_best_94 : decode cX6_best 94 = .ok (.invokevirtual 134, 3) := by decide +kernel
theorem dX6_best_97 : decode cX6_best 97 = .ok (.ireturn, 1) := by decide +kernel
theorem dX6_best_98 : decode cX6_best 98 = .ok (.aload_n 0, 1) := by decide +kernel
theorem dX6_best_99 : decode cX6_best 99 = .ok (.iload_n 1, 1) := by decide +kernel
theorem dX6_best_100 : decode cX6_best 100 = .ok (.bipush 7, 2) := by decide +kernel
theorem dX6_best_102 : decode cX6_best 102 = .ok (.iconst 0, 1) := by decide +kernel
theorem dX6_best_103 : decode cX6_best 103 = .ok (.iconst 4, 1) := by decide +kernel
theorem dX6_best_104 : decode cX6_best 104 = .ok (.invokevirtual 134, 3) := by decide +kernel
theorem dX6_best_107 : decode cX6_best 107 = .ok (.ireturn, 1) := by decide +kernel
theorem dX6_best_108 : decode cX6_best 108 = .ok (.aload_n 0, 1) := by decide +kernel
theorem dX6_best_109 : decode cX6_best 109 = .ok (.getfield 10, 3) := by decide +kernel
theorem dX6_best_112 : decode cX6_best 112 = .ok (.getfield 138, 3) := by decide +kernel
theorem dX6_best_115 : decode cX6_best 115 = .ok (.ifCond .ne 8, 3) := by decide +kernel
theorem dX6_best_118 : decode cX6_best 118 = .ok (.bipush (-9), 2) := by decide +kernel
theorem dX6_best_120 : decode cX6_best 120 = .ok (.goto 20, 3) := by decide +kernel
theorem dX6_best_123 : decode cX6_best 123 = .ok (.aload_n 0, 1) := by decide +kernel
theorem dX6_best_124 : decode cX6_best 124 = .ok (.iload_n 1, 1) := by decide +kernel
theorem dX6_best_125 : decode cX6_best 125 = .ok (.bipush 8, 2) := by decide +kernel
theorem dX6_best_127 : decode cX6_best 127 = .ok (.iconst 0, 1) := by decide +kernel
theorem dX6_best_128 : decode cX6_best 128 = .ok (.aload_n 0, 1) := by decide +kernel
theorem dX6_best_129 : decode cX6_best 129 = .ok (.getfield 10, 3) := by decide +kernel
theorem dX6_best_132 : decode cX6_best 132 = .ok (.getfield 138, 3) := by decide +kernel
theorem dX6_best_135 : decode cX6_best 135 = .ok (.iconst 1, 1) := by decide +kernel
theorem dX6_best_136 : decode cX6_best 136 = .ok (.isub, 1) := by decide +kernel
theorem dX6_best_137 : decode cX6_best 137 = .ok (.invokevirtual 134, 3) := by decide +kernel
theorem dX6_best_140 : decode cX6_best 140 = .ok (.ireturn, 1) := by decide +kernel
theorem dX6_finer_0 : decode cX6_finer 0 = .ok (.iload_n 1, 1) := by decide +kernel
theorem dX6_finer_1 : decode cX6_finer 1 = .ok (.iconst 0, 1) := by decide +kernel
theorem dX6_finer_2 : decode cX6_finer 2 = .ok (.sipush 240, 3) := by decide +kernel
theorem dX6_finer_5 : decode cX6_finer 5 = .ok (.invokestatic 43, 3) := by decide +kernel
theorem dX6_finer_8 : decode cX6_finer 8 = .ok (.istore_n 3, 1) := by decide +kernel
theorem dX6_finer_9 : decode cX6_finer 9 = .ok (.iload_n 3, 1) := by decide +kernel
theorem dX6_finer_10 : decode cX6_finer 10 = .ok (.ifCond .ne 16, 3) := by decide +kernel
theorem dX6_finer_13 : decode cX6_finer 13 = .ok (.aload_n 0, 1) := by decide +kernel
theorem dX6_finer_14 : decode cX6_finer 14 = .ok (.getfield 10, 3) := by decide +kernel
theorem dX6_finer_17 : decode cX6_finer 17 = .ok (.iload_n 2, 1) := by decide +kernel
theorem dX6_finer_18 : decode cX6_finer 18 = .ok (.invokevirtual 66, 3) := by decide +kernel
theorem dX6_finer_21 : decode cX6_finer 21 = .ok (.ifCond .ne 5, 3) := by decide +kernel
theorem dX6_finer_24 : decode cX6_finer 24 = .ok (.iconst (-1), 1) := by decide +kernel
theorem dX6_finer_25 : decode cX6_finer 25 = .ok (.istore_n 3, 1) := by decide +kernel
theorem dX6_finer_26 : decode cX6_finer 26 = .ok (.iload_n 3, 1) := by decide +kernel
theorem dX6_finer_27 : decode cX6_finer 27 = .ok (.ifCond .eq 9, 3) := by decide +kernel
theorem dX6_finer_30 : decode cX6_finer 30 = .ok (.aload_n 0, 1) := by decide +kernel
theorem dX6_finer_31 : decode cX6_finer 31 = .ok (.iload_n 3, 1) := by decide +kernel
theorem dX6_finer_32 : decode cX6_finer 32 = .ok (.invokevirtual 82, 3) := by decide +kernel
theorem dX6_finer_35 : decode cX6_finer 35 = .ok (.ireturn, 1) := by decide +kernel
theorem dX6_finer_36 : decode cX6_finer 36 = .ok (.aload_n 0, 1) := by decide +kernel
theorem dX6_finer_37 : decode cX6_finer 37 = .ok (.iload_n 1, 1) := by decide +kernel
theorem dX6_finer_38 : decode cX6_finer 38 = .ok (.iload_n 2, 1) := by decide +kernel
theorem dX6_finer_39 : decode cX6_finer 39 = .ok (.iload_n 2, 1) := by decide +kernel
theorem dX6_finer_40 : decode cX6_finer 40 = .ok (.invokevirtual 141, 3) := by decide +kernel
theorem dX6_finer_43 : decode cX6_finer 43 = .ok (.ireturn, 1) := by decide +kernel
theorem dX6_mark_0 : decode cX6_mark 0 = .ok (.iload_n 1, 1) := by decide +kernel
theorem dX6_mark_1 : decode cX6_mark 1 = .ok (.iconst 0, 1) := by decide +kernel
theorem dX6_mark_2 : decode cX6_mark 2 = .ok (.sipush 240, 3) := by decide +kernel
theorem dX6_mark_5 : decode cX6_mark 5 = .ok (.invokestatic 43, 3) := by decide +kernel
theorem dX6_mark_8 : decode cX6_mark 8 = .ok (.istore_n 2, 1) := by decide +kernel
theorem dX6_mark_9 : decode cX6_mark 9 = .ok (.iload_n 2, 1) := by decide +kernel
theorem dX6_mark_10 : decode cX6_mark 10 = .ok (.ifCond .eq 9, 3) := by decide +kernel
theorem dX6_mark_13 : decode cX6_mark 13 = .ok (.aload_n 0, 1) := by decide +kernel
theorem dX6_mark_14 : decode cX6_mark 14 = .ok (.iload_n 2, 1) := by decide +kernel
theorem dX6_mark_15 : decode cX6_mark 15 = .ok (.invokevirtual 82, 3) := by decide +kernel
theorem dX6_mark_18 : decode cX6_mark 18 = .ok (.ireturn, 1) := by decide +kernel
theorem dX6_mark_19 : decode cX6_mark 19 = .ok (.aload_n 0, 1) := by decide +kernel
theorem dX6_mark_20 : decode cX6_mark 20 = .ok (.iload_n 1, 1) := by decide +kernel
theorem dX6_mark_21 : decode cX6_mark 21 = .ok (.iconst 0, 1) := by decide +kernel
theorem dX6_mark_22 : decode cX6_mark 22 = .ok (.aload_n 0, 1) := by decide +kernel
theorem dX6_mark_23 : decode cX6_mark 23 = .ok (.getfield 10, 3) := by decide +kernel
theorem dX6_mark_26 : decode cX6_mark 26 = .ok (.getfield 138, 3) := by decide +kernel
theorem dX6_mark_29 : decode cX6_mark 29 = .ok (.iconst 1, 1) := by decide +kernel
theorem dX6_mark_30 : decode cX6_mark 30 = .ok (.isub, 1) := by decide +kernel
theorem dX6_mark_31 : decode cX6_mark 31 = .ok (.invokevirtual 141, 3) := by decide +kernel
theorem dX6_mark_34 : decode cX6_mark 34 = .ok (.ireturn, 1) := by decide +kernel
theorem dX6_most_0 : decode cX6_most 0 = .ok (.iload_n 1, 1) := by decide +kernel
theorem dX6_most_1 : decode cX6_most 1 = .ok (.iconst 0, 1) := by decide +kernel
theorem dX6_most_2 : decode cX6_most 2 = .ok (.sipush 240, 3) := by decide +kernel
theorem dX6_most_5 : decode cX6_most 5 = .ok (.invokestatic 43, 3) := by decide +kernel
theorem dX6_most_8 : decode cX6_most 8 = .ok (.istore_n 2, 1) := by decide +kernel
theorem dX6_most_9 : decode cX6_most 9 = .ok (.iload_n 2, 1) := by decide +kernel
theorem dX6_most_10 : decode cX6_most 10 = .ok (.ifCond .eq 9, 3) := by decide +kernel
theorem dX6_most_13 : decode cX6_most 13 = .ok (.aload_n 0, 1) := by decide +kernel
theorem dX6_most_14 : decode cX6_most 14 = .ok (.iload_n 2, 1) := by decide +kernel
theorem dX6_most_15 : decode cX6_most 15 = .ok (.invokevirtual 51, 3) := by decide +kernel
theorem dX6_most_18 : decode cX6_most 18 = .ok (.ireturn, 1) := by decide +kernel
theorem dX6_most_19 : decode cX6_most 19 = .ok (.aload_n 0, 1) := by decide +kernel
theorem dX6_most_20 : decode cX6_most 20 = .ok (.invokevirtual 120, 3) := by decide +kernel
theorem dX6_most_23 : decode cX6_most 23 = .ok (.aload_n 0, 1) := by decide +kernel
theorem dX6_most_24 : decode cX6_most 24 = .ok (.iload_n 1, 1) := by decide +kernel
theorem dX6_most_25 : decode cX6_most 25 = .ok (.iconst 1, 1) := by decide +kernel
theorem dX6_most_26 : decode cX6_most 26 = .ok (.invokevirtual 123, 3) := by decide +kernel
theorem dX6_most_29 : decode cX6_most 29 = .ok (.pop, 1) := by decide +kernel
theorem dX6_most_30 : decode cX6_most 30 = .ok (.bipush (-9), 2) := by decide +kernel
theorem dX6_most_32 : decode cX6_most 32 = .ok (.istore_n 3, 1) := by decide +kernel
theorem dX6_most_33 : decode cX6_most 33 = .ok (.iconst (-1), 1) := by decide +kernel
theorem dX6_most_34 : decode cX6_most 34 = .ok (.istore 4, 2) := by decide +kernel
theorem dX6_most_36 : decode cX6_most 36 = .ok (.iconst 0, 1) := by decide +kernel
theorem dX6_most_37 : decode cX6_most 37 = .ok (.istore 5, 2) := by decide +kernel
theorem dX6_most_39 : decode cX6_most 39 = .ok (.iload 5, 2) := by decide +kernel
theorem dX6_most_41 : decode cX6_most 41 = .ok (.aload_n 0, 1) := by decide +kernel
theorem dX6_most_42 : decode cX6_most 42 = .ok (.getfield 10, 3) := by decide +kernel
theorem dX6_most_45 : decode cX6_most 45 = .ok (.getfield 138, 3) := by decide +kernel
theorem dX6_most_48 : decode cX6_most 48 = .ok (.if_icmp .ge 35, 3) := by decide +kernel
theorem dX6_most_51 : decode cX6_most 51 = .ok (.aload_n 0, 1) := by decide +kernel
theorem dX6_most_52 : decode cX6_most 52 = .ok (.getfield 25, 3) := by decide +kernel
theorem dX6_most_55 : decode cX6_most 55 = .ok (.iload 5, 2) := by decide +kernel
theorem dX6_most_57 : decode cX6_most 57 = .ok (.iconst 2, 1) := by decide +kernel
theorem dX6_most_58 : decode cX6_most 58 = .ok (.invokevirtual 131, 3) := by decide +kernel
theorem dX6_most_61 : decode cX6_most 61 = .ok (.istore 6, 2) := by decide +kernel
theorem dX6_most_63 : decode cX6_most 63 = .ok (.iload 6, 2) := by decide +kernel
theorem dX6_most_65 : decode cX6_most 65 = .ok (.iload 4, 2) := by decide +kernel
theorem dX6_most_67 : decode cX6_most 67 = .ok (.if_icmp .le 10, 3) := by decide +kernel
theorem dX6_most_70 : decode cX6_most 70 = .ok (.iload 6, 2) := by decide +kernel
theorem dX6_most_72 : decode cX6_most 72 = .ok (.istore 4, 2) := by decide +kernel
theorem dX6_most_74 : decode cX6_most 74 = .ok (.iload 5, 2) := by decide +kernel
theorem dX6_most_76 : decode cX6_most 76 = .ok (.istore_n 3, 1) := by decide +kernel
theorem dX6_most_77 : decode cX6_most 77 = .ok (.iinc 5 1, 3) := by decide +kernel
theorem dX6_most_80 : decode cX6_most 80 = .ok (.goto (-41), 3) := by decide +kernel
theorem dX6_most_83 : decode cX6_most 83 = .ok (.iload_n 3, 1) := by decide +kernel
theorem dX6_most_84 : decode cX6_most 84 = .ok (.ireturn, 1) := by decide +kernel
theorem dX6_between_0 : decode cX6_between 0 = .ok (.iload_n 1, 1) := by decide +kernel
theorem dX6_between_1 : decode cX6_between 1 = .ok (.iconst 0, 1) := by decide +kernel
theorem dX6_between_2 : decode cX6_between 2 = .ok (.sipush 240, 3) := by decide +kernel
theorem dX6_between_5 : decode cX6_between 5 = .ok (.invokestatic 43, 3) := by decide +kernel
theorem dX6_between_8 : decode cX6_between 8 = .ok (.istore_n 2, 1) := by decide +kernel
theorem dX6_between_9 : decode cX6_between 9 = .ok (.iload_n 2, 1) := by decide +kernel
theorem dX6_between_10 : decode cX6_between 10 = .ok (.ifCond .eq 9, 3) := by decide +kernel
theorem dX6_between_13 : decode cX6_between 13 = .ok (.aload_n 0, 1) := by decide +kernel
theorem dX6_between_14 : decode cX6_between 14 = .ok (.iload_n 2, 1) := by decide +kernel
theorem dX6_between_15 : decode cX6_between 15 = .ok (.invokevirtual 51, 3) := by decide +kernel
theorem dX6_between_18 : decode cX6_between 18 = .ok (.ireturn, 1) := by decide +kernel
theorem dX6_between_19 : decode cX6_between 19 = .ok (.aload_n 0, 1) := by decide +kernel
theorem dX6_between_20 : decode cX6_between 20 = .ok (.iload_n 1, 1) := by decide +kernel
theorem dX6_between_21 : decode cX6_between 21 = .ok (.iconst 1, 1) := by decide +kernel
theorem dX6_between_22 : decode cX6_between 22 = .ok (.bipush (-20), 2) := by decide +kernel
theorem dX6_between_24 : decode cX6_between 24 = .ok (.bipush 20, 2) := by decide +kernel
theorem dX6_between_26 : decode cX6_between 26 = .ok (.invokevirtual 134, 3) := by decide +kernel
theorem dX6_between_29 : decode cX6_between 29 = .ok (.bipush 20, 2) := by decide +kernel
theorem dX6_between_31 : decode cX6_between 31 = .ok (.iadd, 1) := by decide +kernel
theorem dX6_between_32 : decode cX6_between 32 = .ok (.ireturn, 1) := by decide +kernel
theorem dX6_leave_0 : decode cX6_leave 0 = .ok (.iload_n 1, 1) := by decide +kernel
theorem dX6_leave_1 : decode cX6_leave 1 = .ok (.iconst 0, 1) := by decide +kernel
theorem dX6_leave_2 : decode cX6_leave 2 = .ok (.sipush 240, 3) := by decide +kernel
theorem dX6_leave_5 : decode cX6_leave 5 = .ok (.invokestatic 43, 3) := by decide +kernel
theorem dX6_leave_8 : decode cX6_leave 8 = .ok (.istore_n 2, 1) := by decide +kernel
theorem dX6_leave_9 : decode cX6_leave 9 = .ok (.iload_n 2, 1) := by decide +kernel
theorem dX6_leave_10 : decode cX6_leave 10 = .ok (.ifCond .eq 9, 3) := by decide +kernel
theorem dX6_leave_13 : decode cX6_leave 13 = .ok (.aload_n 0, 1) := by decide +kernel
theorem dX6_leave_14 : decode cX6_leave 14 = .ok (.iload_n 2, 1) := by decide +kernel
theorem dX6_leave_15 : decode cX6_leave 15 = .ok (.invokevirtual 82, 3) := by decide +kernel
theorem dX6_leave_18 : decode cX6_leave 18 = .ok (.ireturn, 1) := by decide +kernel
theorem dX6_leave_19 : decode cX6_leave 19 = .ok (.aload_n 0, 1) := by decide +kernel
theorem dX6_leave_20 : decode cX6_leave 20 = .ok (.invokevirtual 120, 3) := by decide +kernel
theorem dX6_leave_23 : decode cX6_leave 23 = .ok (.aload_n 0, 1) := by decide +kernel
theorem dX6_leave_24 : decode cX6_leave 24 = .ok (.iload_n 1, 1) := by decide +kernel
theorem dX6_leave_25 : decode cX6_leave 25 = .ok (.iconst 1, 1) := by decide +kernel
theorem dX6_leave_26 : decode cX6_leave 26 = .ok (.invokevirtual 123, 3) := by decide +kernel
theorem dX6_leave_29 : decode cX6_leave 29 = .ok (.istore_n 3, 1) := by decide +kernel
theorem dX6_leave_30 : decode cX6_leave 30 = .ok (.aload_n 0, 1) := by decide +kernel
theorem dX6_leave_31 : decode cX6_leave 31 = .ok (.invokevirtual 120, 3) := by decide +kernel
theorem dX6_leave_34 : decode cX6_leave 34 = .ok (.aload_n 0, 1) := by decide +kernel
theorem dX6_leave_35 : decode cX6_leave 35 = .ok (.iload_n 1, 1) := by decide +kernel
theorem dX6_leave_36 : decode cX6_leave 36 = .ok (.iconst 0, 1) := by decide +kernel
theorem dX6_leave_37 : decode cX6_leave 37 = .ok (.invokevirtual 123, 3) := by decide +kernel
theorem dX6_leave_40 : decode cX6_leave 40 = .ok (.iload_n 3, 1) := by decide +kernel
theorem dX6_leave_41 : decode cX6_leave 41 = .ok (.isub, 1) := by decide +kernel
theorem dX6_leave_42 : decode cX6_leave 42 = .ok (.ireturn, 1) := by decide +kernel
theorem dX6_holds_0 : decode cX6_holds 0 = .ok (.iload_n 1, 1) := by decide +kernel
theorem dX6_holds_1 : decode cX6_holds 1 = .ok (.bipush (-99), 2) := by decide +kernel
theorem dX6_holds_3 : decode cX6_holds 3 = .ok (.bipush 99, 2) := by decide +kernel
theorem dX6_holds_5 : decode cX6_holds 5 = .ok (.invokestatic 43, 3) := by decide +kernel
theorem dX6_holds_8 : decode cX6_holds 8 = .ok (.istore_n 2, 1) := by decide +kernel
theorem dX6_holds_9 : decode cX6_holds 9 = .ok (.iload_n 2, 1) := by decide +kernel
theorem dX6_holds_10 : decode cX6_holds 10 = .ok (.ifCond .eq 9, 3) := by decide +kernel
theorem dX6_holds_13 : decode cX6_holds 13 = .ok (.aload_n 0, 1) := by decide +kernel
theorem dX6_holds_14 : decode cX6_holds 14 = .ok (.iload_n 2, 1) := by decide +kernel
theorem dX6_holds_15 : decode cX6_holds 15 = .ok (.invokevirtual 51, 3) := by decide +kernel
theorem dX6_holds_18 : decode cX6_holds 18 = .ok (.ireturn, 1) := by decide +kernel
theorem dX6_holds_19 : decode cX6_holds 19 = .ok (.aload_n 0, 1) := by decide +kernel
theorem dX6_holds_20 : decode cX6_holds 20 = .ok (.iload_n 1, 1) := by decide +kernel
theorem dX6_holds_21 : decode cX6_holds 21 = .ok (.invokevirtual 144, 3) := by decide +kernel
theorem dX6_holds_24 : decode cX6_holds 24 = .ok (.istore_n 3, 1) := by decide +kernel
theorem dX6_holds_25 : decode cX6_holds 25 = .ok (.iload_n 3, 1) := by decide +kernel
theorem dX6_holds_26 : decode cX6_holds 26 = .ok (.sipush 240, 3) := by decide +kernel
theorem dX6_holds_29 : decode cX6_holds 29 = .ok (.if_icmp .ge 7, 3) := by decide +kernel
theorem dX6_holds_32 : decode cX6_holds 32 = .ok (.iload_n 3, 1) := by decide +kernel
theorem dX6_holds_33 : decode cX6_holds 33 = .ok (.goto 5, 3) := by decide +kernel
theorem dX6_holds_36 : decode cX6_holds 36 = .ok (.bipush (-9), 2) := by decide +kernel
theorem dX6_holds_38 : decode cX6_holds 38 = .ok (.ireturn, 1) := by decide +kernel
theorem dX6_setAt_0 : decode cX6_setAt 0 = .ok (.iconst (-1), 1) := by decide +kernel
theorem dX6_setAt_1 : decode cX6_setAt 1 = .ok (.istore_n 1, 1) := by decide +kernel
theorem dX6_setAt_2 : decode cX6_setAt 2 = .ok (.bipush (-20), 2) := by decide +kernel
theorem dX6_setAt_4 : decode cX6_setAt 4 = .ok (.istore_n 2, 1) := by decide +kernel
theorem dX6_setAt_5 : decode cX6_setAt 5 = .ok (.bipush (-20), 2) := by decide +kernel
theorem dX6_setAt_7 : decode cX6_setAt 7 = .ok (.istore_n 3, 1) := by decide +kernel
theorem dX6_setAt_8 : decode cX6_setAt 8 = .ok (.iload_n 3, 1) := by decide +kernel
theorem dX6_setAt_9 : decode cX6_setAt 9 = .ok (.bipush 20, 2) := by decide +kernel
theorem dX6_setAt_11 : decode cX6_setAt 11 = .ok (.if_icmp .gt 27, 3) := by decide +kernel
theorem dX6_setAt_14 : decode cX6_setAt 14 = .ok (.aload_n 0, 1) := by decide +kernel
theorem dX6_setAt_15 : decode cX6_setAt 15 = .ok (.iload_n 3, 1) := by decide +kernel
theorem dX6_setAt_16 : decode cX6_setAt 16 = .ok (.invokevirtual 144, 3) := by decide +kernel
theorem dX6_setAt_19 : decode cX6_setAt 19 = .ok (.istore 4, 2) := by decide +kernel
theorem dX6_setAt_21 : decode cX6_setAt 21 = .ok (.iload 4, 2) := by decide +kernel
theorem dX6_setAt_23 : decode cX6_setAt 23 = .ok (.iload_n 1, 1) := by decide +kernel
theorem dX6_setAt_24 : decode cX6_setAt 24 = .ok (.if_icmp .le 8, 3) := by decide +kernel
theorem dX6_setAt_27 : decode cX6_setAt 27 = .ok (.iload 4, 2) := by decide +kernel
theorem dX6_setAt_29 : decode cX6_setAt 29 = .ok (.istore_n 1, 1) := by decide +kernel
theorem dX6_setAt_30 : decode cX6_setAt 30 = .ok (.iload_n 3, 1) := by decide +kernel
theorem dX6_setAt_31 : decode cX6_setAt 31 = .ok (.istore_n 2, 1) := by decide +kernel
theorem dX6_setAt_32 : decode cX6_setAt 32 = .ok (.iinc 3 1, 3) := by decide +kernel
