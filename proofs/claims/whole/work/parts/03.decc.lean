theorem dX6_setAt_35 : decode cX6_setAt 35 = .ok (.goto (-27), 3) := by decide +kernel
theorem dX6_setAt_38 : decode cX6_setAt 38 = .ok (.iload_n 2, 1) := by decide +kernel
theorem dX6_setAt_39 : decode cX6_setAt 39 = .ok (.bipush 20, 2) := by decide +kernel
theorem dX6_setAt_41 : decode cX6_setAt 41 = .ok (.iadd, 1) := by decide +kernel
theorem dX6_setAt_42 : decode cX6_setAt 42 = .ok (.ireturn, 1) := by decide +kernel
theorem dX6_steadyFrom_0 : decode cX6_steadyFrom 0 = .ok (.iconst 0, 1) := by decide +kernel
theorem dX6_steadyFrom_1 : decode cX6_steadyFrom 1 = .ok (.istore_n 1, 1) := by decide +kernel
theorem dX6_steadyFrom_2 : decode cX6_steadyFrom 2 = .ok (.iconst 0, 1) := by decide +kernel
theorem dX6_steadyFrom_3 : decode cX6_steadyFrom 3 = .ok (.istore_n 2, 1) := by decide +kernel
theorem dX6_steadyFrom_4 : decode cX6_steadyFrom 4 = .ok (.iload_n 2, 1) := by decide +kernel
theorem dX6_steadyFrom_5 : decode cX6_steadyFrom 5 = .ok (.sipush 250, 3) := by decide +kernel
theorem dX6_steadyFrom_8 : decode cX6_steadyFrom 8 = .ok (.if_icmp .ge 52, 3) := by decide +kernel
theorem dX6_steadyFrom_11 : decode cX6_steadyFrom 11 = .ok (.aload_n 0, 1) := by decide +kernel
theorem dX6_steadyFrom_12 : decode cX6_steadyFrom 12 = .ok (.getfield 10, 3) := by decide +kernel
theorem dX6_steadyFrom_15 : decode cX6_steadyFrom 15 = .ok (.getfield 98, 3) := by decide +kernel
theorem dX6_steadyFrom_18 : decode cX6_steadyFrom 18 = .ok (.aload_n 0, 1) := by decide +kernel
theorem dX6_steadyFrom_19 : decode cX6_steadyFrom 19 = .ok (.getfield 10, 3) := by decide +kernel
theorem dX6_steadyFrom_22 : decode cX6_steadyFrom 22 = .ok (.getfield 107, 3) := by decide +kernel
theorem dX6_steadyFrom_25 : decode cX6_steadyFrom 25 = .ok (.iload_n 2, 1) := by decide +kernel
theorem dX6_steadyFrom_26 : decode cX6_steadyFrom 26 = .ok (.iadd, 1) := by decide +kernel
theorem dX6_steadyFrom_27 : decode cX6_steadyFrom 27 = .ok (.invokevirtual 102, 3) := by decide +kernel
theorem dX6_steadyFrom_30 : decode cX6_steadyFrom 30 = .ok (.ifCond .ne 9, 3) := by decide +kernel
theorem dX6_steadyFrom_33 : decode cX6_steadyFrom 33 = .ok (.iload_n 1, 1) := by decide +kernel
theorem dX6_steadyFrom_34 : decode cX6_steadyFrom 34 = .ok (.iconst 1, 1) := by decide +kernel
theorem dX6_steadyFrom_35 : decode cX6_steadyFrom 35 = .ok (.iadd, 1) := by decide +kernel
theorem dX6_steadyFrom_36 : decode cX6_steadyFrom 36 = .ok (.goto 4, 3) := by decide +kernel
theorem dX6_steadyFrom_39 : decode cX6_steadyFrom 39 = .ok (.iconst 0, 1) := by decide +kernel
theorem dX6_steadyFrom_40 : decode cX6_steadyFrom 40 = .ok (.istore_n 1, 1) := by decide +kernel
theorem dX6_steadyFrom_41 : decode cX6_steadyFrom 41 = .ok (.iload_n 1, 1) := by decide +kernel
theorem dX6_steadyFrom_42 : decode cX6_steadyFrom 42 = .ok (.bipush 10, 2) := by decide +kernel
theorem dX6_steadyFrom_44 : decode cX6_steadyFrom 44 = .ok (.if_icmp .ne 10, 3) := by decide +kernel
theorem dX6_steadyFrom_47 : decode cX6_steadyFrom 47 = .ok (.iload_n 2, 1) := by decide +kernel
theorem dX6_steadyFrom_48 : decode cX6_steadyFrom 48 = .ok (.bipush 10, 2) := by decide +kernel
theorem dX6_steadyFrom_50 : decode cX6_steadyFrom 50 = .ok (.isub, 1) := by decide +kernel
theorem dX6_steadyFrom_51 : decode cX6_steadyFrom 51 = .ok (.iconst 1, 1) := by decide +kernel
theorem dX6_steadyFrom_52 : decode cX6_steadyFrom 52 = .ok (.iadd, 1) := by decide +kernel
theorem dX6_steadyFrom_53 : decode cX6_steadyFrom 53 = .ok (.ireturn, 1) := by decide +kernel
theorem dX6_steadyFrom_54 : decode cX6_steadyFrom 54 = .ok (.iinc 2 1, 3) := by decide +kernel
theorem dX6_steadyFrom_57 : decode cX6_steadyFrom 57 = .ok (.goto (-53), 3) := by decide +kernel
theorem dX6_steadyFrom_60 : decode cX6_steadyFrom 60 = .ok (.bipush (-9), 2) := by decide +kernel
theorem dX6_steadyFrom_62 : decode cX6_steadyFrom 62 = .ok (.ireturn, 1) := by decide +kernel
theorem dX6_whoLast_0 : decode cX6_whoLast 0 = .ok (.iload_n 1, 1) := by decide +kernel
theorem dX6_whoLast_1 : decode cX6_whoLast 1 = .ok (.iconst 0, 1) := by decide +kernel
theorem dX6_whoLast_2 : decode cX6_whoLast 2 = .ok (.sipush 240, 3) := by decide +kernel
theorem dX6_whoLast_5 : decode cX6_whoLast 5 = .ok (.invokestatic 43, 3) := by decide +kernel
theorem dX6_whoLast_8 : decode cX6_whoLast 8 = .ok (.istore_n 2, 1) := by decide +kernel
theorem dX6_whoLast_9 : decode cX6_whoLast 9 = .ok (.iload_n 2, 1) := by decide +kernel
theorem dX6_whoLast_10 : decode cX6_whoLast 10 = .ok (.ifCond .eq 9, 3) := by decide +kernel
theorem dX6_whoLast_13 : decode cX6_whoLast 13 = .ok (.aload_n 0, 1) := by decide +kernel
theorem dX6_whoLast_14 : decode cX6_whoLast 14 = .ok (.iload_n 2, 1) := by decide +kernel
theorem dX6_whoLast_15 : decode cX6_whoLast 15 = .ok (.invokevirtual 51, 3) := by decide +kernel
theorem dX6_whoLast_18 : decode cX6_whoLast 18 = .ok (.ireturn, 1) := by decide +kernel
theorem dX6_whoLast_19 : decode cX6_whoLast 19 = .ok (.aload_n 0, 1) := by decide +kernel
theorem dX6_whoLast_20 : decode cX6_whoLast 20 = .ok (.invokevirtual 120, 3) := by decide +kernel
theorem dX6_whoLast_23 : decode cX6_whoLast 23 = .ok (.aload_n 0, 1) := by decide +kernel
theorem dX6_whoLast_24 : decode cX6_whoLast 24 = .ok (.iload_n 1, 1) := by decide +kernel
theorem dX6_whoLast_25 : decode cX6_whoLast 25 = .ok (.iconst 1, 1) := by decide +kernel
theorem dX6_whoLast_26 : decode cX6_whoLast 26 = .ok (.invokevirtual 123, 3) := by decide +kernel
theorem dX6_whoLast_29 : decode cX6_whoLast 29 = .ok (.pop, 1) := by decide +kernel
theorem dX6_whoLast_30 : decode cX6_whoLast 30 = .ok (.aload_n 0, 1) := by decide +kernel
theorem dX6_whoLast_31 : decode cX6_whoLast 31 = .ok (.getfield 25, 3) := by decide +kernel
theorem dX6_whoLast_34 : decode cX6_whoLast 34 = .ok (.getfield 147, 3) := by decide +kernel
theorem dX6_whoLast_37 : decode cX6_whoLast 37 = .ok (.ireturn, 1) := by decide +kernel
theorem dX6_when_0 : decode cX6_when 0 = .ok (.iload_n 1, 1) := by decide +kernel
theorem dX6_when_1 : decode cX6_when 1 = .ok (.ifCond .ge 10, 3) := by decide +kernel
theorem dX6_when_4 : decode cX6_when 4 = .ok (.aload_n 0, 1) := by decide +kernel
theorem dX6_when_5 : decode cX6_when 5 = .ok (.bipush (-4), 2) := by decide +kernel
theorem dX6_when_7 : decode cX6_when 7 = .ok (.invokevirtual 51, 3) := by decide +kernel
theorem dX6_when_10 : decode cX6_when 10 = .ok (.ireturn, 1) := by decide +kernel
theorem dX6_when_11 : decode cX6_when 11 = .ok (.aload_n 0, 1) := by decide +kernel
theorem dX6_when_12 : decode cX6_when 12 = .ok (.invokevirtual 120, 3) := by decide +kernel
theorem dX6_when_15 : decode cX6_when 15 = .ok (.iconst 0, 1) := by decide +kernel
theorem dX6_when_16 : decode cX6_when 16 = .ok (.istore_n 2, 1) := by decide +kernel
theorem dX6_when_17 : decode cX6_when 17 = .ok (.iload_n 2, 1) := by decide +kernel
theorem dX6_when_18 : decode cX6_when 18 = .ok (.sipush 240, 3) := by decide +kernel
theorem dX6_when_21 : decode cX6_when 21 = .ok (.if_icmp .ge 35, 3) := by decide +kernel
theorem dX6_when_24 : decode cX6_when 24 = .ok (.aload_n 0, 1) := by decide +kernel
theorem dX6_when_25 : decode cX6_when 25 = .ok (.getfield 16, 3) := by decide +kernel
theorem dX6_when_28 : decode cX6_when 28 = .ok (.iconst 1, 1) := by decide +kernel
theorem dX6_when_29 : decode cX6_when 29 = .ok (.iconst 1, 1) := by decide +kernel
theorem dX6_when_30 : decode cX6_when 30 = .ok (.aload_n 0, 1) := by decide +kernel
theorem dX6_when_31 : decode cX6_when 31 = .ok (.getfield 25, 3) := by decide +kernel
theorem dX6_when_34 : decode cX6_when 34 = .ok (.invokevirtual 113, 3) := by decide +kernel
theorem dX6_when_37 : decode cX6_when 37 = .ok (.aload_n 0, 1) := by decide +kernel
theorem dX6_when_38 : decode cX6_when 38 = .ok (.getfield 25, 3) := by decide +kernel
theorem dX6_when_41 : decode cX6_when 41 = .ok (.invokevirtual 117, 3) := by decide +kernel
theorem dX6_when_44 : decode cX6_when 44 = .ok (.iload_n 1, 1) := by decide +kernel
theorem dX6_when_45 : decode cX6_when 45 = .ok (.if_icmp .le 5, 3) := by decide +kernel
theorem dX6_when_48 : decode cX6_when 48 = .ok (.iload_n 2, 1) := by decide +kernel
theorem dX6_when_49 : decode cX6_when 49 = .ok (.ireturn, 1) := by decide +kernel
theorem dX6_when_50 : decode cX6_when 50 = .ok (.iinc 2 1, 3) := by decide +kernel
theorem dX6_when_53 : decode cX6_when 53 = .ok (.goto (-36), 3) := by decide +kernel
theorem dX6_when_56 : decode cX6_when 56 = .ok (.bipush (-9), 2) := by decide +kernel
theorem dX6_when_58 : decode cX6_when 58 = .ok (.ireturn, 1) := by decide +kernel
theorem dX6_row_0 : decode cX6_row 0 = .ok (.iload_n 1, 1) := by decide +kernel
theorem dX6_row_1 : decode cX6_row 1 = .ok (.iconst 0, 1) := by decide +kernel
theorem dX6_row_2 : decode cX6_row 2 = .ok (.bipush 99, 2) := by decide +kernel
theorem dX6_row_4 : decode cX6_row 4 = .ok (.invokestatic 43, 3) := by decide +kernel
theorem dX6_row_7 : decode cX6_row 7 = .ok (.istore_n 2, 1) := by decide +kernel
theorem dX6_row_8 : decode cX6_row 8 = .ok (.iload_n 2, 1) := by decide +kernel
theorem dX6_row_9 : decode cX6_row 9 = .ok (.ifCond .ne 18, 3) := by decide +kernel
theorem dX6_row_12 : decode cX6_row 12 = .ok (.aload_n 0, 1) := by decide +kernel
theorem dX6_row_13 : decode cX6_row 13 = .ok (.getfield 150, 3) := by decide +kernel
theorem dX6_row_16 : decode cX6_row 16 = .ok (.aload_n 0, 1) := by decide +kernel
theorem dX6_row_17 : decode cX6_row 17 = .ok (.getfield 36, 3) := by decide +kernel
theorem dX6_row_20 : decode cX6_row 20 = .ok (.arraylength, 1) := by decide +kernel
theorem dX6_row_21 : decode cX6_row 21 = .ok (.if_icmp .lt 6, 3) := by decide +kernel
theorem dX6_row_24 : decode cX6_row 24 = .ok (.bipush (-6), 2) := by decide +kernel
theorem dX6_row_26 : decode cX6_row 26 = .ok (.istore_n 2, 1) := by decide +kernel
theorem dX6_row_27 : decode cX6_row 27 = .ok (.iload_n 2, 1) := by decide +kernel
theorem dX6_row_28 : decode cX6_row 28 = .ok (.ifCond .eq 9, 3) := by decide +kernel
theorem dX6_row_31 : decode cX6_row 31 = .ok (.aload_n 0, 1) := by decide +kernel
theorem dX6_row_32 : decode cX6_row 32 = .ok (.iload_n 2, 1) := by decide +kernel
theorem dX6_row_33 : decode cX6_row 33 = .ok (.invokevirtual 51, 3) := by decide +kernel
theorem dX6_row_36 : decode cX6_row 36 = .ok (.ireturn, 1) := by decide +kernel
theorem dX6_row_37 : decode cX6_row 37 = .ok (.aload_n 0, 1) := by decide +kernel
theorem dX6_row_38 : decode cX6_row 38 = .ok (.getfield 36, 3) := by decide +kernel
theorem dX6_row_41 : decode cX6_row 41 = .ok (.aload_n 0, 1) := by decide +kernel
theorem dX6_row_42 : decode cX6_row 42 = .ok (.getfield 150, 3) := by decide +kernel
theorem dX6_row_45 : decode cX6_row 45 = .ok (.iload_n 1, 1) := by decide +kernel
theorem dX6_row_46 : decode cX6_row 46 = .ok (.iastore, 1) := by decide +kernel
theorem dX6_row_47 : decode cX6_row 47 = .ok (.aload_n 0, 1) := by decide +kernel
theorem dX6_row_48 : decode cX6_row 48 = .ok (.dup, 1) := by decide +kernel
theorem dX6_row_49 : decode cX6_row 49 = .ok (.getfield 150, 3) := by decide +kernel
theorem dX6_row_52 : decode cX6_row 52 = .ok (.iconst 1, 1) := by decide +kernel
theorem dX6_row_53 : decode cX6_row 53 = .ok (.iadd, 1) := by decide +kernel
theorem dX6_row_54 : decode cX6_row 54 = .ok (.putfield 150, 3) := by decide +kernel
theorem dX6_row_57 : decode cX6_row 57 = .ok (.aload_n 0, 1) := by decide +kernel
theorem dX6_row_58 : decode cX6_row 58 = .ok (.getfield 150, 3) := by decide +kernel
theorem dX6_row_61 : decode cX6_row 61 = .ok (.ireturn, 1) := by decide +kernel
theorem dX6_kept_0 : decode cX6_kept 0 = .ok (.iload_n 1, 1) := by decide +kernel
theorem dX6_kept_1 : decode cX6_kept 1 = .ok (.ifCond .lt 8, 3) := by decide +kernel
theorem dX6_kept_4 : decode cX6_kept 4 = .ok (.iload_n 1, 1) := by decide +kernel
theorem dX6_kept_5 : decode cX6_kept 5 = .ok (.iconst 1, 1) := by decide +kernel
theorem dX6_kept_6 : decode cX6_kept 6 = .ok (.if_icmp .le 10, 3) := by decide +kernel
theorem dX6_kept_9 : decode cX6_kept 9 = .ok (.aload_n 0, 1) := by decide +kernel
theorem dX6_kept_10 : decode cX6_kept 10 = .ok (.bipush (-2), 2) := by decide +kernel
theorem dX6_kept_12 : decode cX6_kept 12 = .ok (.invokevirtual 51, 3) := by decide +kernel
theorem dX6_kept_15 : decode cX6_kept 15 = .ok (.ireturn, 1) := by decide +kernel
theorem dX6_kept_16 : decode cX6_kept 16 = .ok (.iload_n 1, 1) := by decide +kernel
theorem dX6_kept_17 : decode cX6_kept 17 = .ok (.ifCond .ne 10, 3) := by decide +kernel
theorem dX6_kept_20 : decode cX6_kept 20 = .ok (.aload_n 0, 1) := by decide +kernel
theorem dX6_kept_21 : decode cX6_kept 21 = .ok (.invokevirtual 153, 3) := by decide +kernel
theorem dX6_kept_24 : decode cX6_kept 24 = .ok (.goto 7, 3) := by decide +kernel
theorem dX6_kept_27 : decode cX6_kept 27 = .ok (.aload_n 0, 1) := by decide +kernel
theorem dX6_kept_28 : decode cX6_kept 28 = .ok (.invokevirtual 156, 3) := by decide +kernel
theorem dX6_kept_31 : decode cX6_kept 31 = .ok (.ireturn, 1) := by decide +kernel
theorem dX6_judge_0 : decode cX6_judge 0 = .ok (.aload_n 0, 1) := by decide +kernel
theorem dX6_judge_1 : decode cX6_judge 1 = .ok (.invokevirtual 120, 3) := by decide +kernel
theorem dX6_judge_4 : decode cX6_judge 4 = .ok (.aload_n 0, 1) := by decide +kernel
theorem dX6_judge_5 : decode cX6_judge 5 = .ok (.invokevirtual 159, 3) := by decide +kernel
theorem dX6_judge_8 : decode cX6_judge 8 = .ok (.istore_n 1, 1) := by decide +kernel
theorem dX6_judge_9 : decode cX6_judge 9 = .ok (.aload_n 0, 1) := by decide +kernel
theorem dX6_judge_10 : decode cX6_judge 10 = .ok (.iconst 0, 1) := by decide +kernel
theorem dX6_judge_11 : decode cX6_judge 11 = .ok (.putfield 150, 3) := by decide +kernel
theorem dX6_judge_14 : decode cX6_judge 14 = .ok (.iload_n 1, 1) := by decide +kernel
theorem dX6_judge_15 : decode cX6_judge 15 = .ok (.ireturn, 1) := by decide +kernel
theorem dX6_lots_0 : decode cX6_lots 0 = .ok (.iload_n 1, 1) := by decide +kernel
theorem dX6_lots_1 : decode cX6_lots 1 = .ok (.iconst 1, 1) := by decide +kernel
theorem dX6_lots_2 : decode cX6_lots 2 = .ok (.bipush 20, 2) := by decide +kernel
theorem dX6_lots_4 : decode cX6_lots 4 = .ok (.invokestatic 43, 3) := by decide +kernel
theorem dX6_lots_7 : decode cX6_lots 7 = .ok (.istore_n 3, 1) := by decide +kernel
theorem dX6_lots_8 : decode cX6_lots 8 = .ok (.iload_n 3, 1) := by decide +kernel
theorem dX6_lots_9 : decode cX6_lots 9 = .ok (.ifCond .eq 9, 3) := by decide +kernel
theorem dX6_lots_12 : decode cX6_lots 12 = .ok (.aload_n 0, 1) := by decide +kernel
theorem dX6_lots_13 : decode cX6_lots 13 = .ok (.iload_n 3, 1) := by decide +kernel
theorem dX6_lots_14 : decode cX6_lots 14 = .ok (.invokevirtual 51, 3) := by decide +kernel
theorem dX6_lots_17 : decode cX6_lots 17 = .ok (.ireturn, 1) := by decide +kernel
theorem dX6_lots_18 : decode cX6_lots 18 = .ok (.iload_n 2, 1) := by decide +kernel
theorem dX6_lots_19 : decode cX6_lots 19 = .ok (.istore 4, 2) := by decide +kernel
theorem dX6_lots_21 : decode cX6_lots 21 = .ok (.iconst 0, 1) := by decide +kernel
theorem dX6_lots_22 : decode cX6_lots 22 = .ok (.istore 5, 2) := by decide +kernel
theorem dX6_lots_24 : decode cX6_lots 24 = .ok (.iconst 0, 1) := by decide +kernel
theorem dX6_lots_25 : decode cX6_lots 25 = .ok (.istore 6, 2) := by decide +kernel
theorem dX6_lots_27 : decode cX6_lots 27 = .ok (.iload 6, 2) := by decide +kernel
theorem dX6_lots_29 : decode cX6_lots 29 = .ok (.iload_n 1, 1) := by decide +kernel
theorem dX6_lots_30 : decode cX6_lots 30 = .ok (.if_icmp .ge 57, 3) := by decide +kernel
theorem dX6_lots_33 : decode cX6_lots 33 = .ok (.iload 4, 2) := by decide +kernel
theorem dX6_lots_35 : decode cX6_lots 35 = .ok (.ldc 162, 2) := by decide +kernel
theorem dX6_lots_37 : decode cX6_lots 37 = .ok (.imul, 1) := by decide +kernel
theorem dX6_lots_38 : decode cX6_lots 38 = .ok (.ldc 163, 2) := by decide +kernel
theorem dX6_lots_40 : decode cX6_lots 40 = .ok (.iadd, 1) := by decide +kernel
theorem dX6_lots_41 : decode cX6_lots 41 = .ok (.istore 4, 2) := by decide +kernel
theorem dX6_lots_43 : decode cX6_lots 43 = .ok (.aload_n 0, 1) := by decide +kernel
theorem dX6_lots_44 : decode cX6_lots 44 = .ok (.invokevirtual 120, 3) := by decide +kernel
theorem dX6_lots_47 : decode cX6_lots 47 = .ok (.aload_n 0, 1) := by decide +kernel
theorem dX6_lots_48 : decode cX6_lots 48 = .ok (.getfield 16, 3) := by decide +kernel
theorem dX6_lots_51 : decode cX6_lots 51 = .ok (.iload 4, 2) := by decide +kernel
theorem dX6_lots_53 : decode cX6_lots 53 = .ok (.ldc 164, 2) := by decide +kernel
theorem dX6_lots_55 : decode cX6_lots 55 = .ok (.iand, 1) := by decide +kernel
theorem dX6_lots_56 : decode cX6_lots 56 = .ok (.sipush 256, 3) := by decide +kernel
theorem dX6_lots_59 : decode cX6_lots 59 = .ok (.idiv, 1) := by decide +kernel
theorem dX6_lots_60 : decode cX6_lots 60 = .ok (.bipush 41, 2) := by decide +kernel
theorem dX6_lots_62 : decode cX6_lots 62 = .ok (.irem, 1) := by decide +kernel
theorem dX6_lots_63 : decode cX6_lots 63 = .ok (.bipush 20, 2) := by decide +kernel
theorem dX6_lots_65 : decode cX6_lots 65 = .ok (.isub, 1) := by decide +kernel
theorem dX6_lots_66 : decode cX6_lots 66 = .ok (.putfield 128, 3) := by decide +kernel
theorem dX6_lots_69 : decode cX6_lots 69 = .ok (.iload 5, 2) := by decide +kernel
theorem dX6_lots_71 : decode cX6_lots 71 = .ok (.aload_n 0, 1) := by decide +kernel
theorem dX6_lots_72 : decode cX6_lots 72 = .ok (.bipush 60, 2) := by decide +kernel
theorem dX6_lots_74 : decode cX6_lots 74 = .ok (.iconst 1, 1) := by decide +kernel
theorem dX6_lots_75 : decode cX6_lots 75 = .ok (.invokevirtual 123, 3) := by decide +kernel
theorem dX6_lots_78 : decode cX6_lots 78 = .ok (.iadd, 1) := by decide +kernel
theorem dX6_lots_79 : decode cX6_lots 79 = .ok (.istore 5, 2) := by decide +kernel
theorem dX6_lots_81 : decode cX6_lots 81 = .ok (.iinc 6 1, 3) := by decide +kernel
theorem dX6_lots_84 : decode cX6_lots 84 = .ok (.goto (-57), 3) := by decide +kernel
theorem dX6_lots_87 : decode cX6_lots 87 = .ok (.iload 5, 2) := by decide +kernel
theorem dX6_lots_89 : decode cX6_lots 89 = .ok (.ireturn, 1) := by decide +kernel
theorem dX6_image_0 : decode cX6_image 0 = .ok (.aload_n 0, 1) := by decide +kernel
theorem dX6_image_1 : decode cX6_image 1 = .ok (.getfield 19, 3) := by decide +kernel
theorem dX6_image_4 : decode cX6_image 4 = .ok (.aload_n 0, 1) := by decide +kernel
theorem dX6_image_5 : decode cX6_image 5 = .ok (.getfield 10, 3) := by decide +kernel
theorem dX6_image_8 : decode cX6_image 8 = .ok (.invokevirtual 165, 3) := by decide +kernel
theorem dX6_image_11 : decode cX6_image 11 = .ok (.aload_n 0, 1) := by decide +kernel
theorem dX6_image_12 : decode cX6_image 12 = .ok (.iconst 1, 1) := by decide +kernel
theorem dX6_image_13 : decode cX6_image 13 = .ok (.putfield 169, 3) := by decide +kernel
theorem dX6_image_16 : decode cX6_image 16 = .ok (.aload_n 0, 1) := by decide +kernel
theorem dX6_image_17 : decode cX6_image 17 = .ok (.getfield 10, 3) := by decide +kernel
theorem dX6_image_20 : decode cX6_image 20 = .ok (.getfield 107, 3) := by decide +kernel
theorem dX6_image_23 : decode cX6_image 23 = .ok (.ireturn, 1) := by decide +kernel
theorem dX6_on_0 : decode cX6_on 0 = .ok (.aload_n 0, 1) := by decide +kernel
theorem dX6_on_1 : decode cX6_on 1 = .ok (.getfield 169, 3) := by decide +kernel
theorem dX6_on_4 : decode cX6_on 4 = .ok (.ifCond .ne 10, 3) := by decide +kernel
theorem dX6_on_7 : decode cX6_on 7 = .ok (.aload_n 0, 1) := by decide +kernel
theorem dX6_on_8 : decode cX6_on 8 = .ok (.bipush (-3), 2) := by decide +kernel
theorem dX6_on_10 : decode cX6_on 10 = .ok (.invokevirtual 51, 3) := by decide +kernel
theorem dX6_on_13 : decode cX6_on 13 = .ok (.ireturn, 1) := by decide +kernel
theorem dX6_on_14 : decode cX6_on 14 = .ok (.aload_n 0, 1) := by decide +kernel
theorem dX6_on_15 : decode cX6_on 15 = .ok (.getfield 10, 3) := by decide +kernel
theorem dX6_on_18 : decode cX6_on 18 = .ok (.aload_n 0, 1) := by decide +kernel
theorem dX6_on_19 : decode cX6_on 19 = .ok (.getfield 19, 3) := by decide +kernel
theorem dX6_on_22 : decode cX6_on 22 = .ok (.invokevirtual 165, 3) := by decide +kernel
theorem dX6_on_25 : decode cX6_on 25 = .ok (.aload_n 0, 1) := by decide +kernel
theorem dX6_on_26 : decode cX6_on 26 = .ok (.getfield 10, 3) := by decide +kernel
theorem dX6_on_29 : decode cX6_on 29 = .ok (.getfield 107, 3) := by decide +kernel
theorem dX6_on_32 : decode cX6_on 32 = .ok (.ireturn, 1) := by decide +kernel
theorem dX6_count_0 : decode cX6_count 0 = .ok (.iload_n 1, 1) := by decide +kernel
theorem dX6_count_1 : decode cX6_count 1 = .ok (.tableswitch 144 0 9 #[55, 63, 71, 82, 93, 104, 115, 123, 131, 136], 55) := by decide +kernel
theorem dX6_count_56 : decode cX6_count 56 = .ok (.aload_n 0, 1) := by decide +kernel
theorem dX6_count_57 : decode cX6_count 57 = .ok (.getfield 10, 3) := by decide +kernel
theorem dX6_count_60 : decode cX6_count 60 = .ok (.getfield 138, 3) := by decide +kernel
theorem dX6_count_63 : decode cX6_count 63 = .ok (.ireturn, 1) := by decide +kernel
theorem dX6_count_64 : decode cX6_count 64 = .ok (.aload_n 0, 1) := by decide +kernel
theorem dX6_count_65 : decode cX6_count 65 = .ok (.getfield 10, 3) := by decide +kernel
theorem dX6_count_68 : decode cX6_count 68 = .ok (.getfield 107, 3) := by decide +kernel
theorem dX6_count_71 : decode cX6_count 71 = .ok (.ireturn, 1) := by decide +kernel
theorem dX6_count_72 : decode cX6_count 72 = .ok (.aload_n 0, 1) := by decide +kernel
theorem dX6_count_73 : decode cX6_count 73 = .ok (.getfield 10, 3) := by decide +kernel
theorem dX6_count_76 : decode cX6_count 76 = .ok (.getfield 98, 3) := by decide +kernel
theorem dX6_count_79 : decode cX6_count 79 = .ok (.getfield 173, 3) := by decide +kernel
theorem dX6_count_82 : decode cX6_count 82 = .ok (.ireturn, 1) := by decide +kernel
theorem dX6_count_83 : decode cX6_count 83 = .ok (.aload_n 0, 1) := by decide +kernel
theorem dX6_count_84 : decode cX6_count 84 = .ok (.getfield 10, 3) := by decide +kernel
theorem dX6_count_87 : decode cX6_count 87 = .ok (.getfield 176, 3) := by decide +kernel
theorem dX6_count_90 : decode cX6_count 90 = .ok (.getfield 180, 3) := by decide +kernel
theorem dX6_count_93 : decode cX6_count 93 = .ok (.ireturn, 1) := by decide +kernel
theorem dX6_count_94 : decode cX6_count 94 = .ok (.aload_n 0, 1) := by decide +kernel
theorem dX6_count_95 : decode cX6_count 95 = .ok (.getfield 10, 3) := by decide +kernel
theorem dX6_count_98 : decode cX6_count 98 = .ok (.getfield 176, 3) := by decide +kernel
theorem dX6_count_101 : decode cX6_count 101 = .ok (.getfield 183, 3) := by decide +kernel
theorem dX6_count_104 : decode cX6_count 104 = .ok (.ireturn, 1) := by decide +kernel
theorem dX6_count_105 : decode cX6_count 105 = .ok (.aload_n 0, 1) := by decide +kernel
theorem dX6_count_106 : decode cX6_count 106 = .ok (.getfield 10, 3) := by decide +kernel
theorem dX6_count_109 : decode cX6_count 109 = .ok (.getfield 176, 3) := by decide +kernel
theorem dX6_count_112 : decode cX6_count 112 = .ok (.getfield 186, 3) := by decide +kernel
theorem dX6_count_115 : decode cX6_count 115 = .ok (.ireturn, 1) := by decide +kernel
theorem dX6_count_116 : decode cX6_count 116 = .ok (.aload_n 0, 1) := by decide +kernel
theorem dX6_count_117 : decode cX6_count 117 = .ok (.getfield 10, 3) := by decide +kernel
theorem dX6_count_120 : decode cX6_count 120 = .ok (.getfield 189, 3) := by decide +kernel
theorem dX6_count_123 : decode cX6_count 123 = .ok (.ireturn, 1) := by decide +kernel
theorem dX6_count_124 : decode cX6_count 124 = .ok (.aload_n 0, 1) := by decide +kernel
theorem dX6_count_125 : decode cX6_count 125 = .ok (.getfield 10, 3) := by decide +kernel
theorem dX6_count_128 : decode cX6_count 128 = .ok (.invokevirtual 192, 3) := by decide +kernel
theorem dX6_count_131 : decode cX6_count 131 = .ok (.ireturn, 1) := by decide +kernel
theorem dX6_count_132 : decode cX6_count 132 = .ok (.aload_n 0, 1) := by decide +kernel
theorem dX6_count_133 : decode cX6_count 133 = .ok (.getfield 150, 3) := by decide +kernel
theorem dX6_count_136 : decode cX6_count 136 = .ok (.ireturn, 1) := by decide +kernel
theorem dX6_count_137 : decode cX6_count 137 = .ok (.aload_n 0, 1) := by decide +kernel
theorem dX6_count_138 : decode cX6_count 138 = .ok (.getfield 32, 3) := by decide +kernel
theorem dX6_count_141 : decode cX6_count 141 = .ok (.getfield 47, 3) := by decide +kernel
theorem dX6_count_144 : decode cX6_count 144 = .ok (.ireturn, 1) := by decide +kernel
theorem dX6_count_145 : decode cX6_count 145 = .ok (.iload_n 1, 1) := by decide +kernel
theorem dX6_count_146 : decode cX6_count 146 = .ok (.bipush 11, 2) := by decide +kernel
theorem dX6_count_148 : decode cX6_count 148 = .ok (.if_icmp .lt 21, 3) := by decide +kernel
theorem dX6_count_151 : decode cX6_count 151 = .ok (.iload_n 1, 1) := by decide +kernel
theorem dX6_count_152 : decode cX6_count 152 = .ok (.bipush 16, 2) := by decide +kernel
theorem dX6_count_154 : decode cX6_count 154 = .ok (.if_icmp .gt 15, 3) := by decide +kernel
theorem dX6_count_157 : decode cX6_count 157 = .ok (.aload_n 0, 1) := by decide +kernel
theorem dX6_count_158 : decode cX6_count 158 = .ok (.getfield 40, 3) := by decide +kernel
theorem dX6_count_161 : decode cX6_count 161 = .ok (.iload_n 1, 1) := by decide +kernel
theorem dX6_count_162 : decode cX6_count 162 = .ok (.bipush 10, 2) := by decide +kernel
theorem dX6_count_164 : decode cX6_count 164 = .ok (.isub, 1) := by decide +kernel
theorem dX6_count_165 : decode cX6_count 165 = .ok (.iaload, 1) := by decide +kernel
theorem dX6_count_166 : decode cX6_count 166 = .ok (.goto 5, 3) := by decide +kernel
theorem dX6_count_169 : decode cX6_count 169 = .ok (.bipush (-9), 2) := by decide +kernel
theorem dX6_count_171 : decode cX6_count 171 = .ok (.ireturn, 1) := by decide +kernel
theorem dX6_outside_0 : decode cX6_outside 0 = .ok (.iload_n 0, 1) := by decide +kernel
theorem dX6_outside_1 : decode cX6_outside 1 = .ok (.iload_n 1, 1) := by decide +kernel
theorem dX6_outside_2 : decode cX6_outside 2 = .ok (.if_icmp .ge 6, 3) := by decide +kernel
theorem dX6_outside_5 : decode cX6_outside 5 = .ok (.bipush (-4), 2) := by decide +kernel
theorem dX6_outside_7 : decode cX6_outside 7 = .ok (.ireturn, 1) := by decide +kernel
theorem dX6_outside_8 : decode cX6_outside 8 = .ok (.iload_n 0, 1) := by decide +kernel
theorem dX6_outside_9 : decode cX6_outside 9 = .ok (.iload_n 2, 1) := by decide +kernel
theorem dX6_outside_10 : decode cX6_outside 10 = .ok (.if_icmp .le 8, 3) := by decide +kernel
theorem dX6_outside_13 : decode cX6_outside 13 = .ok (.bipush (-6), 2) := by decide +kernel
theorem dX6_outside_15 : decode cX6_outside 15 = .ok (.goto 4, 3) := by decide +kernel
theorem dX6_outside_18 : decode cX6_outside 18 = .ok (.iconst 0, 1) := by decide +kernel
theorem dX6_outside_19 : decode cX6_outside 19 = .ok (.ireturn, 1) := by decide +kernel
theorem dX6_refuse_0 : decode cX6_refuse 0 = .ok (.iload_n 1, 1) := by decide +kernel
theorem dX6_refuse_1 : decode cX6_refuse 1 = .ok (.ineg, 1) := by decide +kernel
theorem dX6_refuse_2 : decode cX6_refuse 2 = .ok (.istore_n 2, 1) := by decide +kernel
theorem dX6_refuse_3 : decode cX6_refuse 3 = .ok (.iload_n 2, 1) := by decide +kernel
theorem dX6_refuse_4 : decode cX6_refuse 4 = .ok (.ifCond .lt 22, 3) := by decide +kernel
theorem dX6_refuse_7 : decode cX6_refuse 7 = .ok (.iload_n 2, 1) := by decide +kernel
theorem dX6_refuse_8 : decode cX6_refuse 8 = .ok (.aload_n 0, 1) := by decide +kernel
theorem dX6_refuse_9 : decode cX6_refuse 9 = .ok (.getfield 40, 3) := by decide +kernel
theorem dX6_refuse_12 : decode cX6_refuse 12 = .ok (.arraylength, 1) := by decide +kernel
theorem dX6_refuse_13 : decode cX6_refuse 13 = .ok (.if_icmp .ge 13, 3) := by decide +kernel
theorem dX6_refuse_16 : decode cX6_refuse 16 = .ok (.aload_n 0, 1) := by decide +kernel
theorem dX6_refuse_17 : decode cX6_refuse 17 = .ok (.getfield 40, 3) := by decide +kernel
theorem dX6_refuse_20 : decode cX6_refuse 20 = .ok (.iload_n 2, 1) := by decide +kernel
theorem dX6_refuse_21 : decode cX6_refuse 21 = .ok (.dup2, 1) := by decide +kernel
theorem dX6_refuse_22 : decode cX6_refuse 22 = .ok (.iaload, 1) := by decide +kernel
theorem dX6_refuse_23 : decode cX6_refuse 23 = .ok (.iconst 1, 1) := by decide +kernel
theorem dX6_refuse_24 : decode cX6_refuse 24 = .ok (.iadd, 1) := by decide +kernel
theorem dX6_refuse_25 : decode cX6_refuse 25 = .ok (.iastore, 1) := by decide +kernel
theorem dX6_refuse_26 : decode cX6_refuse 26 = .ok (.iload_n 1, 1) := by decide +kernel
theorem dX6_refuse_27 : decode cX6_refuse 27 = .ok (.ireturn, 1) := by decide +kernel
theorem dX6_refuseTold_0 : decode cX6_refuseTold 0 = .ok (.ldc 195, 2) := by decide +kernel
theorem dX6_refuseTold_2 : decode cX6_refuseTold 2 = .ok (.aload_n 0, 1) := by decide +kernel
theorem dX6_refuseTold_3 : decode cX6_refuseTold 3 = .ok (.iload_n 1, 1) := by decide +kernel
theorem dX6_refuseTold_4 : decode cX6_refuseTold 4 = .ok (.invokevirtual 51, 3) := by decide +kernel
theorem dX6_refuseTold_7 : decode cX6_refuseTold 7 = .ok (.isub, 1) := by decide +kernel
theorem dX6_refuseTold_8 : decode cX6_refuseTold 8 = .ok (.ireturn, 1) := by decide +kernel
theorem dX6_tellAll_0 : decode cX6_tellAll 0 = .ok (.aload_n 0, 1) := by decide +kernel
theorem dX6_tellAll_1 : decode cX6_tellAll 1 = .ok (.invokevirtual 120, 3) := by decide +kernel
theorem dX6_tellAll_4 : decode cX6_tellAll 4 = .ok (.iconst 0, 1) := by decide +kernel
theorem dX6_tellAll_5 : decode cX6_tellAll 5 = .ok (.istore_n 1, 1) := by decide +kernel
theorem dX6_tellAll_6 : decode cX6_tellAll 6 = .ok (.iconst 0, 1) := by decide +kernel
theorem dX6_tellAll_7 : decode cX6_tellAll 7 = .ok (.istore_n 2, 1) := by decide +kernel
theorem dX6_tellAll_8 : decode cX6_tellAll 8 = .ok (.iload_n 2, 1) := by decide +kernel
theorem dX6_tellAll_9 : decode cX6_tellAll 9 = .ok (.aload_n 0, 1) := by decide +kernel
theorem dX6_tellAll_10 : decode cX6_tellAll 10 = .ok (.getfield 32, 3) := by decide +kernel
theorem dX6_tellAll_13 : decode cX6_tellAll 13 = .ok (.getfield 47, 3) := by decide +kernel
theorem dX6_tellAll_16 : decode cX6_tellAll 16 = .ok (.if_icmp .ge 50, 3) := by decide +kernel
theorem dX6_tellAll_19 : decode cX6_tellAll 19 = .ok (.aload_n 0, 1) := by decide +kernel
theorem dX6_tellAll_20 : decode cX6_tellAll 20 = .ok (.getfield 32, 3) := by decide +kernel
theorem dX6_tellAll_23 : decode cX6_tellAll 23 = .ok (.aload_n 0, 1) := by decide +kernel
theorem dX6_tellAll_24 : decode cX6_tellAll 24 = .ok (.getfield 16, 3) := by decide +kernel
theorem dX6_tellAll_27 : decode cX6_tellAll 27 = .ok (.iload_n 2, 1) := by decide +kernel
theorem dX6_tellAll_28 : decode cX6_tellAll 28 = .ok (.aload_n 0, 1) := by decide +kernel
theorem dX6_tellAll_29 : decode cX6_tellAll 29 = .ok (.getfield 25, 3) := by decide +kernel
theorem dX6_tellAll_32 : decode cX6_tellAll 32 = .ok (.invokevirtual 196, 3) := by decide +kernel
theorem dX6_tellAll_35 : decode cX6_tellAll 35 = .ok (.ifCond .ne 9, 3) := by decide +kernel
theorem dX6_tellAll_38 : decode cX6_tellAll 38 = .ok (.sipush (-2000), 3) := by decide +kernel
theorem dX6_tellAll_41 : decode cX6_tellAll 41 = .ok (.iload_n 2, 1) := by decide +kernel
theorem dX6_tellAll_42 : decode cX6_tellAll 42 = .ok (.isub, 1) := by decide +kernel
theorem dX6_tellAll_43 : decode cX6_tellAll 43 = .ok (.ireturn, 1) := by decide +kernel
theorem dX6_tellAll_44 : decode cX6_tellAll 44 = .ok (.iinc 1 1, 3) := by decide +kernel
theorem dX6_tellAll_47 : decode cX6_tellAll 47 = .ok (.iload_n 2, 1) := by decide +kernel
theorem dX6_tellAll_48 : decode cX6_tellAll 48 = .ok (.iconst 1, 1) := by decide +kernel
theorem dX6_tellAll_49 : decode cX6_tellAll 49 = .ok (.aload_n 0, 1) := by decide +kernel
theorem dX6_tellAll_50 : decode cX6_tellAll 50 = .ok (.getfield 32, 3) := by decide +kernel
theorem dX6_tellAll_53 : decode cX6_tellAll 53 = .ok (.iload_n 2, 1) := by decide +kernel
theorem dX6_tellAll_54 : decode cX6_tellAll 54 = .ok (.invokevirtual 200, 3) := by decide +kernel
theorem dX6_tellAll_57 : decode cX6_tellAll 57 = .ok (.invokevirtual 204, 3) := by decide +kernel
theorem dX6_tellAll_60 : decode cX6_tellAll 60 = .ok (.iadd, 1) := by decide +kernel
theorem dX6_tellAll_61 : decode cX6_tellAll 61 = .ok (.iadd, 1) := by decide +kernel
theorem dX6_tellAll_62 : decode cX6_tellAll 62 = .ok (.istore_n 2, 1) := by decide +kernel
theorem dX6_tellAll_63 : decode cX6_tellAll 63 = .ok (.goto (-55), 3) := by decide +kernel
theorem dX6_tellAll_66 : decode cX6_tellAll 66 = .ok (.aload_n 0, 1) := by decide +kernel
theorem dX6_tellAll_67 : decode cX6_tellAll 67 = .ok (.getfield 10, 3) := by decide +kernel
theorem dX6_tellAll_70 : decode cX6_tellAll 70 = .ok (.aload_n 0, 1) := by decide +kernel
theorem dX6_tellAll_71 : decode cX6_tellAll 71 = .ok (.getfield 16, 3) := by decide +kernel
theorem dX6_tellAll_74 : decode cX6_tellAll 74 = .ok (.invokevirtual 165, 3) := by decide +kernel
theorem dX6_tellAll_77 : decode cX6_tellAll 77 = .ok (.iload_n 1, 1) := by decide +kernel
theorem dX6_tellAll_78 : decode cX6_tellAll 78 = .ok (.ireturn, 1) := by decide +kernel
theorem dX6_think_0 : decode cX6_think 0 = .ok (.aload_n 0, 1) := by decide +kernel
theorem dX6_think_1 : decode cX6_think 1 = .ok (.getfield 16, 3) := by decide +kernel
theorem dX6_think_4 : decode cX6_think 4 = .ok (.aload_n 0, 1) := by decide +kernel
theorem dX6_think_5 : decode cX6_think 5 = .ok (.getfield 10, 3) := by decide +kernel
theorem dX6_think_8 : decode cX6_think 8 = .ok (.invokevirtual 165, 3) := by decide +kernel
theorem dX6_think_11 : decode cX6_think 11 = .ok (.aload_n 0, 1) := by decide +kernel
theorem dX6_think_12 : decode cX6_think 12 = .ok (.getfield 25, 3) := by decide +kernel
theorem dX6_think_15 : decode cX6_think 15 = .ok (.invokevirtual 110, 3) := by decide +kernel
theorem dX6_think_18 : decode cX6_think 18 = .ok (.return_, 1) := by decide +kernel
theorem dX6_playInMind_0 : decode cX6_playInMind 0 = .ok (.aload_n 0, 1) := by decide +kernel
theorem dX6_playInMind_1 : decode cX6_playInMind 1 = .ok (.getfield 16, 3) := by decide +kernel
theorem dX6_playInMind_4 : decode cX6_playInMind 4 = .ok (.iload_n 1, 1) := by decide +kernel
theorem dX6_playInMind_5 : decode cX6_playInMind 5 = .ok (.iload_n 2, 1) := by decide +kernel
theorem dX6_playInMind_6 : decode cX6_playInMind 6 = .ok (.aload_n 0, 1) := by decide +kernel
theorem dX6_playInMind_7 : decode cX6_playInMind 7 = .ok (.getfield 25, 3) := by decide +kernel
theorem dX6_playInMind_10 : decode cX6_playInMind 10 = .ok (.invokevirtual 113, 3) := by decide +kernel
theorem dX6_playInMind_13 : decode cX6_playInMind 13 = .ok (.aload_n 0, 1) := by decide +kernel
theorem dX6_playInMind_14 : decode cX6_playInMind 14 = .ok (.getfield 25, 3) := by decide +kernel
theorem dX6_playInMind_17 : decode cX6_playInMind 17 = .ok (.invokevirtual 209, 3) := by decide +kernel
theorem dX6_playInMind_20 : decode cX6_playInMind 20 = .ok (.ireturn, 1) := by decide +kernel
theorem dX6_leastCostly_0 : decode cX6_leastCostly 0 = .ok (.iload_n 3, 1) := by decide +kernel
theorem dX6_leastCostly_1 : decode cX6_leastCostly 1 = .ok (.istore 5, 2) := by decide +kernel
theorem dX6_leastCostly_3 : decode cX6_leastCostly 3 = .ok (.iconst (-1), 1) := by decide +kernel
theorem dX6_leastCostly_4 : decode cX6_leastCostly 4 = .ok (.istore 6, 2) := by decide +kernel
theorem dX6_leastCostly_6 : decode cX6_leastCostly 6 = .ok (.iload_n 3, 1) := by decide +kernel
theorem dX6_leastCostly_7 : decode cX6_leastCostly 7 = .ok (.istore 7, 2) := by decide +kernel
theorem dX6_leastCostly_9 : decode cX6_leastCostly 9 = .ok (.iload 7, 2) := by decide +kernel
theorem dX6_leastCostly_11 : decode cX6_leastCostly 11 = .ok (.iload 4, 2) := by decide +kernel
theorem dX6_leastCostly_13 : decode cX6_leastCostly 13 = .ok (.if_icmp .gt 52, 3) := by decide +kernel
theorem dX6_leastCostly_16 : decode cX6_leastCostly 16 = .ok (.aload_n 0, 1) := by decide +kernel
theorem dX6_leastCostly_17 : decode cX6_leastCostly 17 = .ok (.invokevirtual 120, 3) := by decide +kernel
theorem dX6_leastCostly_20 : decode cX6_leastCostly 20 = .ok (.aload_n 0, 1) := by decide +kernel
theorem dX6_leastCostly_21 : decode cX6_leastCostly 21 = .ok (.getfield 16, 3) := by decide +kernel
theorem dX6_leastCostly_24 : decode cX6_leastCostly 24 = .ok (.iload_n 2, 1) := by decide +kernel
theorem dX6_leastCostly_25 : decode cX6_leastCostly 25 = .ok (.iload 7, 2) := by decide +kernel
theorem dX6_leastCostly_27 : decode cX6_leastCostly 27 = .ok (.invokevirtual 94, 3) := by decide +kernel
theorem dX6_leastCostly_30 : decode cX6_leastCostly 30 = .ok (.pop, 1) := by decide +kernel
theorem dX6_leastCostly_31 : decode cX6_leastCostly 31 = .ok (.aload_n 0, 1) := by decide +kernel
theorem dX6_leastCostly_32 : decode cX6_leastCostly 32 = .ok (.iload_n 1, 1) := by decide +kernel
theorem dX6_leastCostly_33 : decode cX6_leastCostly 33 = .ok (.iconst 1, 1) := by decide +kernel
theorem dX6_leastCostly_34 : decode cX6_leastCostly 34 = .ok (.invokevirtual 123, 3) := by decide +kernel
theorem dX6_leastCostly_37 : decode cX6_leastCostly 37 = .ok (.istore 8, 2) := by decide +kernel
theorem dX6_leastCostly_39 : decode cX6_leastCostly 39 = .ok (.iload 6, 2) := by decide +kernel
theorem dX6_leastCostly_41 : decode cX6_leastCostly 41 = .ok (.ifCond .lt 10, 3) := by decide +kernel
theorem dX6_leastCostly_44 : decode cX6_leastCostly 44 = .ok (.iload 8, 2) := by decide +kernel
theorem dX6_leastCostly_46 : decode cX6_leastCostly 46 = .ok (.iload 6, 2) := by decide +kernel
theorem dX6_leastCostly_48 : decode cX6_leastCostly 48 = .ok (.if_icmp .ge 11, 3) := by decide +kernel
theorem dX6_leastCostly_51 : decode cX6_leastCostly 51 = .ok (.iload 8, 2) := by decide +kernel
theorem dX6_leastCostly_53 : decode cX6_leastCostly 53 = .ok (.istore 6, 2) := by decide +kernel
theorem dX6_leastCostly_55 : decode cX6_leastCostly 55 = .ok (.iload 7, 2) := by decide +kernel
theorem dX6_leastCostly_57 : decode cX6_leastCostly 57 = .ok (.istore 5, 2) := by decide +kernel
theorem dX6_leastCostly_59 : decode cX6_leastCostly 59 = .ok (.iinc 7 1, 3) := by decide +kernel
theorem dX6_leastCostly_62 : decode cX6_leastCostly 62 = .ok (.goto (-53), 3) := by decide +kernel
theorem dX6_leastCostly_65 : decode cX6_leastCostly 65 = .ok (.iload 5, 2) := by decide +kernel
theorem dX6_leastCostly_67 : decode cX6_leastCostly 67 = .ok (.ireturn, 1) := by decide +kernel
theorem dX6_savedByFineHands_0 : decode cX6_savedByFineHands 0 = .ok (.aload_n 0, 1) := by decide +kernel
theorem dX6_savedByFineHands_1 : decode cX6_savedByFineHands 1 = .ok (.invokevirtual 120, 3) := by decide +kernel
theorem dX6_savedByFineHands_4 : decode cX6_savedByFineHands 4 = .ok (.aload_n 0, 1) := by decide +kernel
theorem dX6_savedByFineHands_5 : decode cX6_savedByFineHands 5 = .ok (.iload_n 1, 1) := by decide +kernel
theorem dX6_savedByFineHands_6 : decode cX6_savedByFineHands 6 = .ok (.iconst 1, 1) := by decide +kernel
theorem dX6_savedByFineHands_7 : decode cX6_savedByFineHands 7 = .ok (.invokevirtual 123, 3) := by decide +kernel
theorem dX6_savedByFineHands_10 : decode cX6_savedByFineHands 10 = .ok (.istore 4, 2) := by decide +kernel
theorem dX6_savedByFineHands_12 : decode cX6_savedByFineHands 12 = .ok (.aload_n 0, 1) := by decide +kernel
theorem dX6_savedByFineHands_13 : decode cX6_savedByFineHands 13 = .ok (.invokevirtual 120, 3) := by decide +kernel
theorem dX6_savedByFineHands_16 : decode cX6_savedByFineHands 16 = .ok (.aload_n 0, 1) := by decide +kernel
theorem dX6_savedByFineHands_17 : decode cX6_savedByFineHands 17 = .ok (.getfield 16, 3) := by decide +kernel
theorem dX6_savedByFineHands_20 : decode cX6_savedByFineHands 20 = .ok (.iload_n 2, 1) := by decide +kernel
theorem dX6_savedByFineHands_21 : decode cX6_savedByFineHands 21 = .ok (.iload_n 3, 1) := by decide +kernel
theorem dX6_savedByFineHands_22 : decode cX6_savedByFineHands 22 = .ok (.invokevirtual 212, 3) := by decide +kernel
theorem dX6_savedByFineHands_25 : decode cX6_savedByFineHands 25 = .ok (.iload 4, 2) := by decide +kernel
theorem dX6_savedByFineHands_27 : decode cX6_savedByFineHands 27 = .ok (.aload_n 0, 1) := by decide +kernel
theorem dX6_savedByFineHands_28 : decode cX6_savedByFineHands 28 = .ok (.iload_n 1, 1) := by decide +kernel
theorem dX6_savedByFineHands_29 : decode cX6_savedByFineHands 29 = .ok (.iconst 1, 1) := by decide +kernel
theorem dX6_savedByFineHands_30 : decode cX6_savedByFineHands 30 = .ok (.invokevirtual 123, 3) := by decide +kernel
theorem dX6_savedByFineHands_33 : decode cX6_savedByFineHands 33 = .ok (.isub, 1) := by decide +kernel
theorem dX6_savedByFineHands_34 : decode cX6_savedByFineHands 34 = .ok (.ireturn, 1) := by decide +kernel
theorem dX6_minutesHeld_0 : decode cX6_minutesHeld 0 = .ok (.aload_n 0, 1) := by decide +kernel
theorem dX6_minutesHeld_1 : decode cX6_minutesHeld 1 = .ok (.invokevirtual 120, 3) := by decide +kernel
theorem dX6_minutesHeld_4 : decode cX6_minutesHeld 4 = .ok (.aload_n 0, 1) := by decide +kernel
theorem dX6_minutesHeld_5 : decode cX6_minutesHeld 5 = .ok (.getfield 16, 3) := by decide +kernel
theorem dX6_minutesHeld_8 : decode cX6_minutesHeld 8 = .ok (.iload_n 1, 1) := by decide +kernel
theorem dX6_minutesHeld_9 : decode cX6_minutesHeld 9 = .ok (.putfield 128, 3) := by decide +kernel
theorem dX6_minutesHeld_12 : decode cX6_minutesHeld 12 = .ok (.iconst 0, 1) := by decide +kernel
theorem dX6_minutesHeld_13 : decode cX6_minutesHeld 13 = .ok (.istore_n 2, 1) := by decide +kernel
theorem dX6_minutesHeld_14 : decode cX6_minutesHeld 14 = .ok (.iload_n 2, 1) := by decide +kernel
theorem dX6_minutesHeld_15 : decode cX6_minutesHeld 15 = .ok (.sipush 240, 3) := by decide +kernel
theorem dX6_minutesHeld_18 : decode cX6_minutesHeld 18 = .ok (.if_icmp .ge 42, 3) := by decide +kernel
theorem dX6_minutesHeld_21 : decode cX6_minutesHeld 21 = .ok (.aload_n 0, 1) := by decide +kernel
theorem dX6_minutesHeld_22 : decode cX6_minutesHeld 22 = .ok (.getfield 16, 3) := by decide +kernel
theorem dX6_minutesHeld_25 : decode cX6_minutesHeld 25 = .ok (.invokevirtual 216, 3) := by decide +kernel
theorem dX6_minutesHeld_28 : decode cX6_minutesHeld 28 = .ok (.pop, 1) := by decide +kernel
theorem dX6_minutesHeld_29 : decode cX6_minutesHeld 29 = .ok (.aload_n 0, 1) := by decide +kernel
theorem dX6_minutesHeld_30 : decode cX6_minutesHeld 30 = .ok (.getfield 16, 3) := by decide +kernel
theorem dX6_minutesHeld_33 : decode cX6_minutesHeld 33 = .ok (.dup, 1) := by decide +kernel
theorem dX6_minutesHeld_34 : decode cX6_minutesHeld 34 = .ok (.getfield 107, 3) := by decide +kernel
theorem dX6_minutesHeld_37 : decode cX6_minutesHeld 37 = .ok (.iconst 1, 1) := by decide +kernel
theorem dX6_minutesHeld_38 : decode cX6_minutesHeld 38 = .ok (.iadd, 1) := by decide +kernel
theorem dX6_minutesHeld_39 : decode cX6_minutesHeld 39 = .ok (.putfield 107, 3) := by decide +kernel
theorem dX6_minutesHeld_42 : decode cX6_minutesHeld 42 = .ok (.aload_n 0, 1) := by decide +kernel
theorem dX6_minutesHeld_43 : decode cX6_minutesHeld 43 = .ok (.getfield 16, 3) := by decide +kernel
theorem dX6_minutesHeld_46 : decode cX6_minutesHeld 46 = .ok (.invokevirtual 219, 3) := by decide +kernel
theorem dX6_minutesHeld_49 : decode cX6_minutesHeld 49 = .ok (.ifCond .eq 5, 3) := by decide +kernel
theorem dX6_minutesHeld_52 : decode cX6_minutesHeld 52 = .ok (.iload_n 2, 1) := by decide +kernel
theorem dX6_minutesHeld_53 : decode cX6_minutesHeld 53 = .ok (.ireturn, 1) := by decide +kernel
theorem dX6_minutesHeld_54 : decode cX6_minutesHeld 54 = .ok (.iinc 2 1, 3) := by decide +kernel
theorem dX6_minutesHeld_57 : decode cX6_minutesHeld 57 = .ok (.goto (-43), 3) := by decide +kernel
theorem dX6_minutesHeld_60 : decode cX6_minutesHeld 60 = .ok (.sipush 240, 3) := by decide +kernel
theorem dX6_minutesHeld_63 : decode cX6_minutesHeld 63 = .ok (.ireturn, 1) := by decide +kernel
theorem dX6_firstUnlike_0 : decode cX6_firstUnlike 0 = .ok (.iconst 0, 1) := by decide +kernel
theorem dX6_firstUnlike_1 : decode cX6_firstUnlike 1 = .ok (.istore_n 1, 1) := by decide +kernel
theorem dX6_firstUnlike_2 : decode cX6_firstUnlike 2 = .ok (.iload_n 1, 1) := by decide +kernel
theorem dX6_firstUnlike_3 : decode cX6_firstUnlike 3 = .ok (.aload_n 0, 1) := by decide +kernel
theorem dX6_firstUnlike_4 : decode cX6_firstUnlike 4 = .ok (.getfield 150, 3) := by decide +kernel
theorem dX6_firstUnlike_7 : decode cX6_firstUnlike 7 = .ok (.if_icmp .ge 58, 3) := by decide +kernel
theorem dX6_firstUnlike_10 : decode cX6_firstUnlike 10 = .ok (.iload_n 1, 1) := by decide +kernel
theorem dX6_firstUnlike_11 : decode cX6_firstUnlike 11 = .ok (.aload_n 0, 1) := by decide +kernel
theorem dX6_firstUnlike_12 : decode cX6_firstUnlike 12 = .ok (.getfield 36, 3) := by decide +kernel
theorem dX6_firstUnlike_15 : decode cX6_firstUnlike 15 = .ok (.arraylength, 1) := by decide +kernel
theorem dX6_firstUnlike_16 : decode cX6_firstUnlike 16 = .ok (.if_icmp .ge 49, 3) := by decide +kernel
theorem dX6_firstUnlike_19 : decode cX6_firstUnlike 19 = .ok (.aload_n 0, 1) := by decide +kernel
theorem dX6_firstUnlike_20 : decode cX6_firstUnlike 20 = .ok (.getfield 16, 3) := by decide +kernel
theorem dX6_firstUnlike_23 : decode cX6_firstUnlike 23 = .ok (.iconst 1, 1) := by decide +kernel
theorem dX6_firstUnlike_24 : decode cX6_firstUnlike 24 = .ok (.iconst 1, 1) := by decide +kernel
theorem dX6_firstUnlike_25 : decode cX6_firstUnlike 25 = .ok (.aload_n 0, 1) := by decide +kernel
theorem dX6_firstUnlike_26 : decode cX6_firstUnlike 26 = .ok (.getfield 25, 3) := by decide +kernel
theorem dX6_firstUnlike_29 : decode cX6_firstUnlike 29 = .ok (.invokevirtual 113, 3) := by decide +kernel
theorem dX6_firstUnlike_32 : decode cX6_firstUnlike 32 = .ok (.aload_n 0, 1) := by decide +kernel
theorem dX6_firstUnlike_33 : decode cX6_firstUnlike 33 = .ok (.getfield 16, 3) := by decide +kernel
theorem dX6_firstUnlike_36 : decode cX6_firstUnlike 36 = .ok (.getfield 128, 3) := by decide +kernel
theorem dX6_firstUnlike_39 : decode cX6_firstUnlike 39 = .ok (.bipush 50, 2) := by decide +kernel
theorem dX6_firstUnlike_41 : decode cX6_firstUnlike 41 = .ok (.iadd, 1) := by decide +kernel
theorem dX6_firstUnlike_42 : decode cX6_firstUnlike 42 = .ok (.iconst 0, 1) := by decide +kernel
theorem dX6_firstUnlike_43 : decode cX6_firstUnlike 43 = .ok (.bipush 99, 2) := by decide +kernel
theorem dX6_firstUnlike_45 : decode cX6_firstUnlike 45 = .ok (.invokestatic 223, 3) := by decide +kernel
theorem dX6_firstUnlike_48 : decode cX6_firstUnlike 48 = .ok (.aload_n 0, 1) := by decide +kernel
theorem dX6_firstUnlike_49 : decode cX6_firstUnlike 49 = .ok (.getfield 36, 3) := by decide +kernel
theorem dX6_firstUnlike_52 : decode cX6_firstUnlike 52 = .ok (.iload_n 1, 1) := by decide +kernel
theorem dX6_firstUnlike_53 : decode cX6_firstUnlike 53 = .ok (.iaload, 1) := by decide +kernel
theorem dX6_firstUnlike_54 : decode cX6_firstUnlike 54 = .ok (.if_icmp .eq 5, 3) := by decide +kernel
theorem dX6_firstUnlike_57 : decode cX6_firstUnlike 57 = .ok (.iload_n 1, 1) := by decide +kernel
theorem dX6_firstUnlike_58 : decode cX6_firstUnlike 58 = .ok (.ireturn, 1) := by decide +kernel
theorem dX6_firstUnlike_59 : decode cX6_firstUnlike 59 = .ok (.iinc 1 1, 3) := by decide +kernel
theorem dX6_firstUnlike_62 : decode cX6_firstUnlike 62 = .ok (.goto (-60), 3) := by decide +kernel
theorem dX6_firstUnlike_65 : decode cX6_firstUnlike 65 = .ok (.bipush (-9), 2) := by decide +kernel
theorem dX6_firstUnlike_67 : decode cX6_firstUnlike 67 = .ok (.ireturn, 1) := by decide +kernel
theorem dX6_rulesKept_0 : decode cX6_rulesKept 0 = .ok (.iconst 0, 1) := by decide +kernel
theorem dX6_rulesKept_1 : decode cX6_rulesKept 1 = .ok (.istore_n 1, 1) := by decide +kernel
theorem dX6_rulesKept_2 : decode cX6_rulesKept 2 = .ok (.iconst 0, 1) := by decide +kernel
theorem dX6_rulesKept_3 : decode cX6_rulesKept 3 = .ok (.istore_n 2, 1) := by decide +kernel
theorem dX6_rulesKept_4 : decode cX6_rulesKept 4 = .ok (.iload_n 2, 1) := by decide +kernel
theorem dX6_rulesKept_5 : decode cX6_rulesKept 5 = .ok (.iconst 5, 1) := by decide +kernel
theorem dX6_rulesKept_6 : decode cX6_rulesKept 6 = .ok (.if_icmp .ge 39, 3) := by decide +kernel
theorem dX6_rulesKept_9 : decode cX6_rulesKept 9 = .ok (.aload_n 0, 1) := by decide +kernel
theorem dX6_rulesKept_10 : decode cX6_rulesKept 10 = .ok (.invokevirtual 120, 3) := by decide +kernel
theorem dX6_rulesKept_13 : decode cX6_rulesKept 13 = .ok (.aload_n 0, 1) := by decide +kernel
theorem dX6_rulesKept_14 : decode cX6_rulesKept 14 = .ok (.getfield 16, 3) := by decide +kernel
theorem dX6_rulesKept_17 : decode cX6_rulesKept 17 = .ok (.getfield 176, 3) := by decide +kernel
theorem dX6_rulesKept_20 : decode cX6_rulesKept 20 = .ok (.iload_n 2, 1) := by decide +kernel
theorem dX6_rulesKept_21 : decode cX6_rulesKept 21 = .ok (.putfield 180, 3) := by decide +kernel
theorem dX6_rulesKept_24 : decode cX6_rulesKept 24 = .ok (.aload_n 0, 1) := by decide +kernel
theorem dX6_rulesKept_25 : decode cX6_rulesKept 25 = .ok (.invokevirtual 159, 3) := by decide +kernel
theorem dX6_rulesKept_28 : decode cX6_rulesKept 28 = .ok (.bipush (-9), 2) := by decide +kernel
theorem dX6_rulesKept_30 : decode cX6_rulesKept 30 = .ok (.if_icmp .ne 9, 3) := by decide +kernel
theorem dX6_rulesKept_33 : decode cX6_rulesKept 33 = .ok (.iload_n 1, 1) := by decide +kernel
theorem dX6_rulesKept_34 : decode cX6_rulesKept 34 = .ok (.iconst 1, 1) := by decide +kernel
theorem dX6_rulesKept_35 : decode cX6_rulesKept 35 = .ok (.iload_n 2, 1) := by decide +kernel
theorem dX6_rulesKept_36 : decode cX6_rulesKept 36 = .ok (.ishl, 1) := by decide +kernel
theorem dX6_rulesKept_37 : decode cX6_rulesKept 37 = .ok (.ior, 1) := by decide +kernel
theorem dX6_rulesKept_38 : decode cX6_rulesKept 38 = .ok (.istore_n 1, 1) := by decide +kernel
theorem dX6_rulesKept_39 : decode cX6_rulesKept 39 = .ok (.iinc 2 1, 3) := by decide +kernel
theorem dX6_rulesKept_42 : decode cX6_rulesKept 42 = .ok (.goto (-38), 3) := by decide +kernel
theorem dX6_rulesKept_45 : decode cX6_rulesKept 45 = .ok (.iload_n 1, 1) := by decide +kernel
theorem dX6_rulesKept_46 : decode cX6_rulesKept 46 = .ok (.ireturn, 1) := by decide +kernel
theorem dX6_limitsKept_0 : decode cX6_limitsKept 0 = .ok (.iconst 0, 1) := by decide +kernel
theorem dX6_limitsKept_1 : decode cX6_limitsKept 1 = .ok (.istore_n 1, 1) := by decide +kernel
theorem dX6_limitsKept_2 : decode cX6_limitsKept 2 = .ok (.getstatic 88, 3) := by decide +kernel
theorem dX6_limitsKept_5 : decode cX6_limitsKept 5 = .ok (.iconst 4, 1) := by decide +kernel
theorem dX6_limitsKept_6 : decode cX6_limitsKept 6 = .ok (.iaload, 1) := by decide +kernel
theorem dX6_limitsKept_7 : decode cX6_limitsKept 7 = .ok (.istore_n 2, 1) := by decide +kernel
theorem dX6_limitsKept_8 : decode cX6_limitsKept 8 = .ok (.iload_n 2, 1) := by decide +kernel
theorem dX6_limitsKept_9 : decode cX6_limitsKept 9 = .ok (.getstatic 91, 3) := by decide +kernel
theorem dX6_limitsKept_12 : decode cX6_limitsKept 12 = .ok (.iconst 4, 1) := by decide +kernel
theorem dX6_limitsKept_13 : decode cX6_limitsKept 13 = .ok (.iaload, 1) := by decide +kernel
theorem dX6_limitsKept_14 : decode cX6_limitsKept 14 = .ok (.if_icmp .gt 36, 3) := by decide +kernel
theorem dX6_limitsKept_17 : decode cX6_limitsKept 17 = .ok (.aload_n 0, 1) := by decide +kernel
theorem dX6_limitsKept_18 : decode cX6_limitsKept 18 = .ok (.invokevirtual 120, 3) := by decide +kernel
theorem dX6_limitsKept_21 : decode cX6_limitsKept 21 = .ok (.aload_n 0, 1) := by decide +kernel
theorem dX6_limitsKept_22 : decode cX6_limitsKept 22 = .ok (.getfield 16, 3) := by decide +kernel
theorem dX6_limitsKept_25 : decode cX6_limitsKept 25 = .ok (.getfield 176, 3) := by decide +kernel
theorem dX6_limitsKept_28 : decode cX6_limitsKept 28 = .ok (.iload_n 2, 1) := by decide +kernel
theorem dX6_limitsKept_29 : decode cX6_limitsKept 29 = .ok (.putfield 183, 3) := by decide +kernel
theorem dX6_limitsKept_32 : decode cX6_limitsKept 32 = .ok (.aload_n 0, 1) := by decide +kernel
theorem dX6_limitsKept_33 : decode cX6_limitsKept 33 = .ok (.invokevirtual 159, 3) := by decide +kernel
theorem dX6_limitsKept_36 : decode cX6_limitsKept 36 = .ok (.bipush (-9), 2) := by decide +kernel
theorem dX6_limitsKept_38 : decode cX6_limitsKept 38 = .ok (.if_icmp .ne 6, 3) := by decide +kernel
theorem dX6_limitsKept_41 : decode cX6_limitsKept 41 = .ok (.iinc 1 1, 3) := by decide +kernel
theorem dX6_limitsKept_44 : decode cX6_limitsKept 44 = .ok (.iinc 2 1, 3) := by decide +kernel
theorem dX6_limitsKept_47 : decode cX6_limitsKept 47 = .ok (.goto (-39), 3) := by decide +kernel
theorem dX6_limitsKept_50 : decode cX6_limitsKept 50 = .ok (.iload_n 1, 1) := by decide +kernel
theorem dX6_limitsKept_51 : decode cX6_limitsKept 51 = .ok (.ireturn, 1) := by decide +kernel
theorem dX6_held_0 : decode cX6_held 0 = .ok (.iload_n 1, 1) := by decide +kernel
theorem dX6_held_1 : decode cX6_held 1 = .ok (.iload_n 2, 1) := by decide +kernel
theorem dX6_held_2 : decode cX6_held 2 = .ok (.iload_n 0, 1) := by decide +kernel
theorem dX6_held_3 : decode cX6_held 3 = .ok (.invokestatic 226, 3) := by decide +kernel
theorem dX6_held_6 : decode cX6_held 6 = .ok (.invokestatic 231, 3) := by decide +kernel
theorem dX6_held_9 : decode cX6_held 9 = .ok (.ireturn, 1) := by decide +kernel
theorem dX7_init_0 : decode cX7_init 0 = .ok (.aload_n 0, 1) := by decide +kernel
theorem dX7_init_1 : decode cX7_init 1 = .ok (.invokespecial 1, 3) := by decide +kernel
theorem dX7_init_4 : decode cX7_init 4 = .ok (.aload_n 0, 1) := by decide +kernel
theorem dX7_init_5 : decode cX7_init 5 = .ok (.bipush 7, 2) := by decide +kernel
theorem dX7_init_7 : decode cX7_init 7 = .ok (.newarray .int, 2) := by decide +kernel
theorem dX7_init_9 : decode cX7_init 9 = .ok (.putfield 7, 3) := by decide +kernel
theorem dX7_init_12 : decode cX7_init 12 = .ok (.aload_n 0, 1) := by decide +kernel
theorem dX7_init_13 : decode cX7_init 13 = .ok (.bipush 6, 2) := by decide +kernel
theorem dX7_init_15 : decode cX7_init 15 = .ok (.newarray .int, 2) := by decide +kernel
theorem dX7_init_17 : decode cX7_init 17 = .ok (.putfield 13, 3) := by decide +kernel
theorem dX7_init_20 : decode cX7_init 20 = .ok (.aload_n 0, 1) := by decide +kernel
theorem dX7_init_21 : decode cX7_init 21 = .ok (.iconst 5, 1) := by decide +kernel
theorem dX7_init_22 : decode cX7_init 22 = .ok (.newarray .int, 2) := by decide +kernel
theorem dX7_init_24 : decode cX7_init 24 = .ok (.putfield 16, 3) := by decide +kernel
theorem dX7_init_27 : decode cX7_init 27 = .ok (.aload_n 0, 1) := by decide +kernel
theorem dX7_init_28 : decode cX7_init 28 = .ok (.iconst 5, 1) := by decide +kernel
theorem dX7_init_29 : decode cX7_init 29 = .ok (.newarray .int, 2) := by decide +kernel
theorem dX7_init_31 : decode cX7_init 31 = .ok (.putfield 19, 3) := by decide +kernel
theorem dX7_init_34 : decode cX7_init 34 = .ok (.aload_n 0, 1) := by decide +kernel
theorem dX7_init_35 : decode cX7_init 35 = .ok (.iconst 5, 1) := by decide +kernel
theorem dX7_init_36 : decode cX7_init 36 = .ok (.newarray .int, 2) := by decide +kernel
theorem dX7_init_38 : decode cX7_init 38 = .ok (.putfield 22, 3) := by decide +kernel
theorem dX7_init_41 : decode cX7_init 41 = .ok (.aload_n 0, 1) := by decide +kernel
theorem dX7_init_42 : decode cX7_init 42 = .ok (.iconst 5, 1) := by decide +kernel
theorem dX7_init_43 : decode cX7_init 43 = .ok (.newarray .int, 2) := by decide +kernel
theorem dX7_init_45 : decode cX7_init 45 = .ok (.putfield 25, 3) := by decide +kernel
theorem dX7_init_48 : decode cX7_init 48 = .ok (.aload_n 0, 1) := by decide +kernel
theorem dX7_init_49 : decode cX7_init 49 = .ok (.iconst 5, 1) := by decide +kernel
theorem dX7_init_50 : decode cX7_init 50 = .ok (.newarray .int, 2) := by decide +kernel
theorem dX7_init_52 : decode cX7_init 52 = .ok (.putfield 28, 3) := by decide +kernel
theorem dX7_init_55 : decode cX7_init 55 = .ok (.aload_n 0, 1) := by decide +kernel
theorem dX7_init_56 : decode cX7_init 56 = .ok (.iconst 5, 1) := by decide +kernel
theorem dX7_init_57 : decode cX7_init 57 = .ok (.newarray .int, 2) := by decide +kernel
theorem dX7_init_59 : decode cX7_init 59 = .ok (.putfield 31, 3) := by decide +kernel
theorem dX7_init_62 : decode cX7_init 62 = .ok (.aload_n 0, 1) := by decide +kernel
theorem dX7_init_63 : decode cX7_init 63 = .ok (.bipush 96, 2) := by decide +kernel
theorem dX7_init_65 : decode cX7_init 65 = .ok (.newarray .int, 2) := by decide +kernel
theorem dX7_init_67 : decode cX7_init 67 = .ok (.putfield 34, 3) := by decide +kernel
theorem dX7_init_70 : decode cX7_init 70 = .ok (.aload_n 0, 1) := by decide +kernel
theorem dX7_init_71 : decode cX7_init 71 = .ok (.bipush 48, 2) := by decide +kernel
theorem dX7_init_73 : decode cX7_init 73 = .ok (.newarray .int, 2) := by decide +kernel
theorem dX7_init_75 : decode cX7_init 75 = .ok (.putfield 37, 3) := by decide +kernel
theorem dX7_init_78 : decode cX7_init 78 = .ok (.aload_n 0, 1) := by decide +kernel
theorem dX7_init_79 : decode cX7_init 79 = .ok (.bipush 48, 2) := by decide +kernel
theorem dX7_init_81 : decode cX7_init 81 = .ok (.newarray .int, 2) := by decide +kernel
theorem dX7_init_83 : decode cX7_init 83 = .ok (.putfield 40, 3) := by decide +kernel
theorem dX7_init_86 : decode cX7_init 86 = .ok (.aload_n 0, 1) := by decide +kernel
theorem dX7_init_87 : decode cX7_init 87 = .ok (.sipush 288, 3) := by decide +kernel
theorem dX7_init_90 : decode cX7_init 90 = .ok (.newarray .int, 2) := by decide +kernel
theorem dX7_init_92 : decode cX7_init 92 = .ok (.putfield 43, 3) := by decide +kernel
theorem dX7_init_95 : decode cX7_init 95 = .ok (.aload_n 0, 1) := by decide +kernel
theorem dX7_init_96 : decode cX7_init 96 = .ok (.sipush 150, 3) := by decide +kernel
theorem dX7_init_99 : decode cX7_init 99 = .ok (.newarray .int, 2) := by decide +kernel
theorem dX7_init_101 : decode cX7_init 101 = .ok (.putfield 46, 3) := by decide +kernel
theorem dX7_init_104 : decode cX7_init 104 = .ok (.aload_n 0, 1) := by decide +kernel
theorem dX7_init_105 : decode cX7_init 105 = .ok (.iconst 5, 1) := by decide +kernel
theorem dX7_init_106 : decode cX7_init 106 = .ok (.newarray .int, 2) := by decide +kernel
theorem dX7_init_108 : decode cX7_init 108 = .ok (.putfield 49, 3) := by decide +kernel
theorem dX7_init_111 : decode cX7_init 111 = .ok (.aload_n 0, 1) := by decide +kernel
theorem dX7_init_112 : decode cX7_init 112 = .ok (.iconst 5, 1) := by decide +kernel
theorem dX7_init_113 : decode cX7_init 113 = .ok (.newarray .int, 2) := by decide +kernel
theorem dX7_init_115 : decode cX7_init 115 = .ok (.putfield 52, 3) := by decide +kernel
theorem dX7_init_118 : decode cX7_init 118 = .ok (.aload_n 0, 1) := by decide +kernel
theorem dX7_init_119 : decode cX7_init 119 = .ok (.sipush 240, 3) := by decide +kernel
theorem dX7_init_122 : decode cX7_init 122 = .ok (.newarray .int, 2) := by decide +kernel
theorem dX7_init_124 : decode cX7_init 124 = .ok (.putfield 55, 3) := by decide +kernel
theorem dX7_init_127 : decode cX7_init 127 = .ok (.aload_n 0, 1) := by decide +kernel
theorem dX7_init_128 : decode cX7_init 128 = .ok (.sipush 240, 3) := by decide +kernel
theorem dX7_init_131 : decode cX7_init 131 = .ok (.newarray .int, 2) := by decide +kernel
theorem dX7_init_133 : decode cX7_init 133 = .ok (.putfield 58, 3) := by decide +kernel
theorem dX7_init_136 : decode cX7_init 136 = .ok (.aload_n 0, 1) := by decide +kernel
theorem dX7_init_137 : decode cX7_init 137 = .ok (.bipush 12, 2) := by decide +kernel
theorem dX7_init_139 : decode cX7_init 139 = .ok (.newarray .int, 2) := by decide +kernel
theorem dX7_init_141 : decode cX7_init 141 = .ok (.putfield 61, 3) := by decide +kernel
theorem dX7_init_144 : decode cX7_init 144 = .ok (.aload_n 0, 1) := by decide +kernel
theorem dX7_init_145 : decode cX7_init 145 = .ok (.getfield 13, 3) := by decide +kernel
theorem dX7_init_148 : decode cX7_init 148 = .ok (.iconst 2, 1) := by decide +kernel
theorem dX7_init_149 : decode cX7_init 149 = .ok (.bipush 6, 2) := by decide +kernel
theorem dX7_init_151 : decode cX7_init 151 = .ok (.iastore, 1) := by decide +kernel
theorem dX7_init_152 : decode cX7_init 152 = .ok (.aload_n 0, 1) := by decide +kernel
theorem dX7_init_153 : decode cX7_init 153 = .ok (.getfield 13, 3) := by decide +kernel
theorem dX7_init_156 : decode cX7_init 156 = .ok (.iconst 3, 1) := by decide +kernel
theorem dX7_init_157 : decode cX7_init 157 = .ok (.iconst 1, 1) := by decide +kernel
theorem dX7_init_158 : decode cX7_init 158 = .ok (.iastore, 1) := by decide +kernel
theorem dX7_init_159 : decode cX7_init 159 = .ok (.aload_n 0, 1) := by decide +kernel
theorem dX7_init_160 : decode cX7_init 160 = .ok (.getfield 13, 3) := by decide +kernel
theorem dX7_init_163 : decode cX7_init 163 = .ok (.iconst 4, 1) := by decide +kernel
theorem dX7_init_164 : decode cX7_init 164 = .ok (.iconst 3, 1) := by decide +kernel
theorem dX7_init_165 : decode cX7_init 165 = .ok (.iastore, 1) := by decide +kernel
theorem dX7_init_166 : decode cX7_init 166 = .ok (.aload_n 0, 1) := by decide +kernel
theorem dX7_init_167 : decode cX7_init 167 = .ok (.getfield 13, 3) := by decide +kernel
theorem dX7_init_170 : decode cX7_init 170 = .ok (.iconst 5, 1) := by decide +kernel
theorem dX7_init_171 : decode cX7_init 171 = .ok (.iconst 2, 1) := by decide +kernel
theorem dX7_init_172 : decode cX7_init 172 = .ok (.iastore, 1) := by decide +kernel
theorem dX7_init_173 : decode cX7_init 173 = .ok (.return_, 1) := by decide +kernel
theorem dX7_no_0 : decode cX7_no 0 = .ok (.aload_n 0, 1) := by decide +kernel
theorem dX7_no_1 : decode cX7_no 1 = .ok (.getfield 7, 3) := by decide +kernel
theorem dX7_no_4 : decode cX7_no 4 = .ok (.iload_n 1, 1) := by decide +kernel
theorem dX7_no_5 : decode cX7_no 5 = .ok (.ineg, 1) := by decide +kernel
theorem dX7_no_6 : decode cX7_no 6 = .ok (.dup2, 1) := by decide +kernel
theorem dX7_no_7 : decode cX7_no 7 = .ok (.iaload, 1) := by decide +kernel
theorem dX7_no_8 : decode cX7_no 8 = .ok (.iconst 1, 1) := by decide +kernel
theorem dX7_no_9 : decode cX7_no 9 = .ok (.iadd, 1) := by decide +kernel
theorem dX7_no_10 : decode cX7_no 10 = .ok (.iastore, 1) := by decide +kernel
theorem dX7_no_11 : decode cX7_no 11 = .ok (.iload_n 1, 1) := by decide +kernel
theorem dX7_no_12 : decode cX7_no 12 = .ok (.ireturn, 1) := by decide +kernel
theorem dX7_lower_0 : decode cX7_lower 0 = .ok (.aload_n 0, 1) := by decide +kernel
theorem dX7_lower_1 : decode cX7_lower 1 = .ok (.getfield 7, 3) := by decide +kernel
theorem dX7_lower_4 : decode cX7_lower 4 = .ok (.iload_n 1, 1) := by decide +kernel
theorem dX7_lower_5 : decode cX7_lower 5 = .ok (.ineg, 1) := by decide +kernel
theorem dX7_lower_6 : decode cX7_lower 6 = .ok (.dup2, 1) := by decide +kernel
theorem dX7_lower_7 : decode cX7_lower 7 = .ok (.iaload, 1) := by decide +kernel
theorem dX7_lower_8 : decode cX7_lower 8 = .ok (.iconst 1, 1) := by decide +kernel
theorem dX7_lower_9 : decode cX7_lower 9 = .ok (.iadd, 1) := by decide +kernel
theorem dX7_lower_10 : decode cX7_lower 10 = .ok (.iastore, 1) := by decide +kernel
theorem dX7_lower_11 : decode cX7_lower 11 = .ok (.ldc 64, 2) := by decide +kernel
theorem dX7_lower_13 : decode cX7_lower 13 = .ok (.iload_n 1, 1) := by decide +kernel
theorem dX7_lower_14 : decode cX7_lower 14 = .ok (.isub, 1) := by decide +kernel
theorem dX7_lower_15 : decode cX7_lower 15 = .ok (.ireturn, 1) := by decide +kernel
theorem dX7_isIn_0 : decode cX7_isIn 0 = .ok (.iload_n 0, 1) := by decide +kernel
theorem dX7_isIn_1 : decode cX7_isIn 1 = .ok (.iload_n 1, 1) := by decide +kernel
theorem dX7_isIn_2 : decode cX7_isIn 2 = .ok (.if_icmp .lt 12, 3) := by decide +kernel
theorem dX7_isIn_5 : decode cX7_isIn 5 = .ok (.iload_n 0, 1) := by decide +kernel
theorem dX7_isIn_6 : decode cX7_isIn 6 = .ok (.iload_n 2, 1) := by decide +kernel
theorem dX7_isIn_7 : decode cX7_isIn 7 = .ok (.if_icmp .gt 7, 3) := by decide +kernel
theorem dX7_isIn_10 : decode cX7_isIn 10 = .ok (.iconst 1, 1) := by decide +kernel
theorem dX7_isIn_11 : decode cX7_isIn 11 = .ok (.goto 4, 3) := by decide +kernel
theorem dX7_isIn_14 : decode cX7_isIn 14 = .ok (.iconst 0, 1) := by decide +kernel
theorem dX7_isIn_15 : decode cX7_isIn 15 = .ok (.ireturn, 1) := by decide +kernel
theorem dX7_bound_0 : decode cX7_bound 0 = .ok (.iload_n 0, 1) := by decide +kernel
theorem dX7_bound_1 : decode cX7_bound 1 = .ok (.iload_n 1, 1) := by decide +kernel
theorem dX7_bound_2 : decode cX7_bound 2 = .ok (.if_icmp .ge 8, 3) := by decide +kernel
theorem dX7_bound_5 : decode cX7_bound 5 = .ok (.bipush (-4), 2) := by decide +kernel
theorem dX7_bound_7 : decode cX7_bound 7 = .ok (.goto 14, 3) := by decide +kernel
theorem dX7_bound_10 : decode cX7_bound 10 = .ok (.iload_n 0, 1) := by decide +kernel
theorem dX7_bound_11 : decode cX7_bound 11 = .ok (.iload_n 2, 1) := by decide +kernel
theorem dX7_bound_12 : decode cX7_bound 12 = .ok (.if_icmp .le 8, 3) := by decide +kernel
theorem dX7_bound_15 : decode cX7_bound 15 = .ok (.bipush (-6), 2) := by decide +kernel
theorem dX7_bound_17 : decode cX7_bound 17 = .ok (.goto 4, 3) := by decide +kernel
theorem dX7_bound_20 : decode cX7_bound 20 = .ok (.iconst 0, 1) := by decide +kernel
theorem dX7_bound_21 : decode cX7_bound 21 = .ok (.ireturn, 1) := by decide +kernel
theorem dX7_size_0 : decode cX7_size 0 = .ok (.iload_n 0, 1) := by decide +kernel
theorem dX7_size_1 : decode cX7_size 1 = .ok (.ifCond .ge 8, 3) := by decide +kernel
theorem dX7_size_4 : decode cX7_size 4 = .ok (.iload_n 0, 1) := by decide +kernel
theorem dX7_size_5 : decode cX7_size 5 = .ok (.ineg, 1) := by decide +kernel
theorem dX7_size_6 : decode cX7_size 6 = .ok (.goto 4, 3) := by decide +kernel
theorem dX7_size_9 : decode cX7_size 9 = .ok (.iload_n 0, 1) := by decide +kernel
theorem dX7_size_10 : decode cX7_size 10 = .ok (.ireturn, 1) := by decide +kernel
theorem dX7_isPerson_0 : decode cX7_isPerson 0 = .ok (.iload_n 1, 1) := by decide +kernel
theorem dX7_isPerson_1 : decode cX7_isPerson 1 = .ok (.ifCond .lt 15, 3) := by decide +kernel
theorem dX7_isPerson_4 : decode cX7_isPerson 4 = .ok (.iload_n 1, 1) := by decide +kernel
theorem dX7_isPerson_5 : decode cX7_isPerson 5 = .ok (.aload_n 0, 1) := by decide +kernel
theorem dX7_isPerson_6 : decode cX7_isPerson 6 = .ok (.getfield 65, 3) := by decide +kernel
theorem dX7_isPerson_9 : decode cX7_isPerson 9 = .ok (.if_icmp .ge 7, 3) := by decide +kernel
theorem dX7_isPerson_12 : decode cX7_isPerson 12 = .ok (.iconst 1, 1) := by decide +kernel
theorem dX7_isPerson_13 : decode cX7_isPerson 13 = .ok (.goto 4, 3) := by decide +kernel
theorem dX7_isPerson_16 : decode cX7_isPerson 16 = .ok (.iconst 0, 1) := by decide +kernel
theorem dX7_isPerson_17 : decode cX7_isPerson 17 = .ok (.ireturn, 1) := by decide +kernel
theorem dX7_leastOf_0 : decode cX7_leastOf 0 = .ok (.iload_n 0, 1) := by decide +kernel
theorem dX7_leastOf_1 : decode cX7_leastOf 1 = .ok (.ifCond .ne 8, 3) := by decide +kernel
theorem dX7_leastOf_4 : decode cX7_leastOf 4 = .ok (.bipush (-99), 2) := by decide +kernel
theorem dX7_leastOf_6 : decode cX7_leastOf 6 = .ok (.goto 33, 3) := by decide +kernel
theorem dX7_leastOf_9 : decode cX7_leastOf 9 = .ok (.iload_n 0, 1) := by decide +kernel
theorem dX7_leastOf_10 : decode cX7_leastOf 10 = .ok (.iconst 3, 1) := by decide +kernel
theorem dX7_leastOf_11 : decode cX7_leastOf 11 = .ok (.if_icmp .ge 8, 3) := by decide +kernel
theorem dX7_leastOf_14 : decode cX7_leastOf 14 = .ok (.bipush (-20), 2) := by decide +kernel
theorem dX7_leastOf_16 : decode cX7_leastOf 16 = .ok (.goto 23, 3) := by decide +kernel
theorem dX7_leastOf_19 : decode cX7_leastOf 19 = .ok (.iload_n 0, 1) := by decide +kernel
theorem dX7_leastOf_20 : decode cX7_leastOf 20 = .ok (.iconst 3, 1) := by decide +kernel
theorem dX7_leastOf_21 : decode cX7_leastOf 21 = .ok (.if_icmp .ne 8, 3) := by decide +kernel
theorem dX7_leastOf_24 : decode cX7_leastOf 24 = .ok (.bipush (-9), 2) := by decide +kernel
theorem dX7_leastOf_26 : decode cX7_leastOf 26 = .ok (.goto 13, 3) := by decide +kernel
theorem dX7_leastOf_29 : decode cX7_leastOf 29 = .ok (.iload_n 0, 1) := by decide +kernel
theorem dX7_leastOf_30 : decode cX7_leastOf 30 = .ok (.iconst 4, 1) := by decide +kernel
theorem dX7_leastOf_31 : decode cX7_leastOf 31 = .ok (.if_icmp .ne 7, 3) := by decide +kernel
theorem dX7_leastOf_34 : decode cX7_leastOf 34 = .ok (.iconst 1, 1) := by decide +kernel
theorem dX7_leastOf_35 : decode cX7_leastOf 35 = .ok (.goto 4, 3) := by decide +kernel
theorem dX7_leastOf_38 : decode cX7_leastOf 38 = .ok (.iconst 0, 1) := by decide +kernel
theorem dX7_leastOf_39 : decode cX7_leastOf 39 = .ok (.ireturn, 1) := by decide +kernel
theorem dX7_mostOf_0 : decode cX7_mostOf 0 = .ok (.iload_n 0, 1) := by decide +kernel
theorem dX7_mostOf_1 : decode cX7_mostOf 1 = .ok (.ifCond .ne 8, 3) := by decide +kernel
theorem dX7_mostOf_4 : decode cX7_mostOf 4 = .ok (.bipush 99, 2) := by decide +kernel
theorem dX7_mostOf_6 : decode cX7_mostOf 6 = .ok (.goto 25, 3) := by decide +kernel
theorem dX7_mostOf_9 : decode cX7_mostOf 9 = .ok (.iload_n 0, 1) := by decide +kernel
theorem dX7_mostOf_10 : decode cX7_mostOf 10 = .ok (.iconst 3, 1) := by decide +kernel
theorem dX7_mostOf_11 : decode cX7_mostOf 11 = .ok (.if_icmp .ge 8, 3) := by decide +kernel
theorem dX7_mostOf_14 : decode cX7_mostOf 14 = .ok (.bipush 20, 2) := by decide +kernel
theorem dX7_mostOf_16 : decode cX7_mostOf 16 = .ok (.goto 15, 3) := by decide +kernel
theorem dX7_mostOf_19 : decode cX7_mostOf 19 = .ok (.iload_n 0, 1) := by decide +kernel
theorem dX7_mostOf_20 : decode cX7_mostOf 20 = .ok (.iconst 4, 1) := by decide +kernel
theorem dX7_mostOf_21 : decode cX7_mostOf 21 = .ok (.if_icmp .ne 8, 3) := by decide +kernel
theorem dX7_mostOf_24 : decode cX7_mostOf 24 = .ok (.bipush 20, 2) := by decide +kernel
theorem dX7_mostOf_26 : decode cX7_mostOf 26 = .ok (.goto 5, 3) := by decide +kernel
theorem dX7_mostOf_29 : decode cX7_mostOf 29 = .ok (.bipush 9, 2) := by decide +kernel
theorem dX7_mostOf_31 : decode cX7_mostOf 31 = .ok (.ireturn, 1) := by decide +kernel
theorem dX7_letter_0 : decode cX7_letter 0 = .ok (.iload_n 1, 1) := by decide +kernel
theorem dX7_letter_1 : decode cX7_letter 1 = .ok (.iconst 0, 1) := by decide +kernel
theorem dX7_letter_2 : decode cX7_letter 2 = .ok (.sipush 255, 3) := by decide +kernel
theorem dX7_letter_5 : decode cX7_letter 5 = .ok (.invokestatic 69, 3) := by decide +kernel
theorem dX7_letter_8 : decode cX7_letter 8 = .ok (.istore_n 2, 1) := by decide +kernel
theorem dX7_letter_9 : decode cX7_letter 9 = .ok (.iload_n 2, 1) := by decide +kernel
theorem dX7_letter_10 : decode cX7_letter 10 = .ok (.ifCond .ne 15, 3) := by decide +kernel
theorem dX7_letter_13 : decode cX7_letter 13 = .ok (.aload_n 0, 1) := by decide +kernel
theorem dX7_letter_14 : decode cX7_letter 14 = .ok (.getfield 73, 3) := by decide +kernel
theorem dX7_letter_17 : decode cX7_letter 17 = .ok (.bipush 96, 2) := by decide +kernel
theorem dX7_letter_19 : decode cX7_letter 19 = .ok (.if_icmp .ne 6, 3) := by decide +kernel
theorem dX7_letter_22 : decode cX7_letter 22 = .ok (.bipush (-6), 2) := by decide +kernel
theorem dX7_letter_24 : decode cX7_letter 24 = .ok (.istore_n 2, 1) := by decide +kernel
theorem dX7_letter_25 : decode cX7_letter 25 = .ok (.iload_n 2, 1) := by decide +kernel
theorem dX7_letter_26 : decode cX7_letter 26 = .ok (.ifCond .eq 9, 3) := by decide +kernel
theorem dX7_letter_29 : decode cX7_letter 29 = .ok (.aload_n 0, 1) := by decide +kernel
theorem dX7_letter_30 : decode cX7_letter 30 = .ok (.iload_n 2, 1) := by decide +kernel
theorem dX7_letter_31 : decode cX7_letter 31 = .ok (.invokevirtual 76, 3) := by decide +kernel
theorem dX7_letter_34 : decode cX7_letter 34 = .ok (.ireturn, 1) := by decide +kernel
theorem dX7_letter_35 : decode cX7_letter 35 = .ok (.aload_n 0, 1) := by decide +kernel
theorem dX7_letter_36 : decode cX7_letter 36 = .ok (.getfield 34, 3) := by decide +kernel
theorem dX7_letter_39 : decode cX7_letter 39 = .ok (.aload_n 0, 1) := by decide +kernel
theorem dX7_letter_40 : decode cX7_letter 40 = .ok (.getfield 73, 3) := by decide +kernel
theorem dX7_letter_43 : decode cX7_letter 43 = .ok (.iload_n 1, 1) := by decide +kernel
theorem dX7_letter_44 : decode cX7_letter 44 = .ok (.iastore, 1) := by decide +kernel
theorem dX7_letter_45 : decode cX7_letter 45 = .ok (.aload_n 0, 1) := by decide +kernel
theorem dX7_letter_46 : decode cX7_letter 46 = .ok (.dup, 1) := by decide +kernel
theorem dX7_letter_47 : decode cX7_letter 47 = .ok (.getfield 73, 3) := by decide +kernel
theorem dX7_letter_50 : decode cX7_letter 50 = .ok (.iconst 1, 1) := by decide +kernel
theorem dX7_letter_51 : decode cX7_letter 51 = .ok (.iadd, 1) := by decide +kernel
theorem dX7_letter_52 : decode cX7_letter 52 = .ok (.putfield 73, 3) := by decide +kernel
theorem dX7_letter_55 : decode cX7_letter 55 = .ok (.aload_n 0, 1) := by decide +kernel
theorem dX7_letter_56 : decode cX7_letter 56 = .ok (.getfield 73, 3) := by decide +kernel
theorem dX7_letter_59 : decode cX7_letter 59 = .ok (.ireturn, 1) := by decide +kernel
theorem dX7_next_0 : decode cX7_next 0 = .ok (.aload_n 0, 1) := by decide +kernel
theorem dX7_next_1 : decode cX7_next 1 = .ok (.getfield 80, 3) := by decide +kernel
theorem dX7_next_4 : decode cX7_next 4 = .ok (.aload_n 0, 1) := by decide +kernel
theorem dX7_next_5 : decode cX7_next 5 = .ok (.getfield 73, 3) := by decide +kernel
theorem dX7_next_8 : decode cX7_next 8 = .ok (.if_icmp .ge 15, 3) := by decide +kernel
theorem dX7_next_11 : decode cX7_next 11 = .ok (.aload_n 0, 1) := by decide +kernel
theorem dX7_next_12 : decode cX7_next 12 = .ok (.getfield 34, 3) := by decide +kernel
theorem dX7_next_15 : decode cX7_next 15 = .ok (.aload_n 0, 1) := by decide +kernel
theorem dX7_next_16 : decode cX7_next 16 = .ok (.getfield 80, 3) := by decide +kernel
theorem dX7_next_19 : decode cX7_next 19 = .ok (.iaload, 1) := by decide +kernel
theorem dX7_next_20 : decode cX7_next 20 = .ok (.goto 4, 3) := by decide +kernel
theorem dX7_next_23 : decode cX7_next 23 = .ok (.iconst (-1), 1) := by decide +kernel
theorem dX7_next_24 : decode cX7_next 24 = .ok (.ireturn, 1) := by decide +kernel
theorem dX7_readsDigits_0 : decode cX7_readsDigits 0 = .ok (.iconst 0, 1) := by decide +kernel
theorem dX7_readsDigits_1 : decode cX7_readsDigits 1 = .ok (.istore_n 3, 1) := by decide +kernel
theorem dX7_readsDigits_2 : decode cX7_readsDigits 2 = .ok (.iconst 0, 1) := by decide +kernel
theorem dX7_readsDigits_3 : decode cX7_readsDigits 3 = .ok (.istore 4, 2) := by decide +kernel
theorem dX7_readsDigits_5 : decode cX7_readsDigits 5 = .ok (.iload 4, 2) := by decide +kernel
theorem dX7_readsDigits_7 : decode cX7_readsDigits 7 = .ok (.iload_n 2, 1) := by decide +kernel
theorem dX7_readsDigits_8 : decode cX7_readsDigits 8 = .ok (.if_icmp .ge 48, 3) := by decide +kernel
theorem dX7_readsDigits_11 : decode cX7_readsDigits 11 = .ok (.aload_n 0, 1) := by decide +kernel
theorem dX7_readsDigits_12 : decode cX7_readsDigits 12 = .ok (.invokevirtual 83, 3) := by decide +kernel
theorem dX7_readsDigits_15 : decode cX7_readsDigits 15 = .ok (.bipush 48, 2) := by decide +kernel
theorem dX7_readsDigits_17 : decode cX7_readsDigits 17 = .ok (.bipush 57, 2) := by decide +kernel
theorem dX7_readsDigits_19 : decode cX7_readsDigits 19 = .ok (.invokestatic 87, 3) := by decide +kernel
theorem dX7_readsDigits_22 : decode cX7_readsDigits 22 = .ok (.ifCond .ne 5, 3) := by decide +kernel
theorem dX7_readsDigits_25 : decode cX7_readsDigits 25 = .ok (.iconst 0, 1) := by decide +kernel
theorem dX7_readsDigits_26 : decode cX7_readsDigits 26 = .ok (.ireturn, 1) := by decide +kernel
theorem dX7_readsDigits_27 : decode cX7_readsDigits 27 = .ok (.bipush 10, 2) := by decide +kernel
theorem dX7_readsDigits_29 : decode cX7_readsDigits 29 = .ok (.iload_n 3, 1) := by decide +kernel
theorem dX7_readsDigits_30 : decode cX7_readsDigits 30 = .ok (.imul, 1) := by decide +kernel
theorem dX7_readsDigits_31 : decode cX7_readsDigits 31 = .ok (.aload_n 0, 1) := by decide +kernel
theorem dX7_readsDigits_32 : decode cX7_readsDigits 32 = .ok (.invokevirtual 83, 3) := by decide +kernel
theorem dX7_readsDigits_35 : decode cX7_readsDigits 35 = .ok (.iadd, 1) := by decide +kernel
theorem dX7_readsDigits_36 : decode cX7_readsDigits 36 = .ok (.bipush 48, 2) := by decide +kernel
theorem dX7_readsDigits_38 : decode cX7_readsDigits 38 = .ok (.isub, 1) := by decide +kernel
theorem dX7_readsDigits_39 : decode cX7_readsDigits 39 = .ok (.istore_n 3, 1) := by decide +kernel
theorem dX7_readsDigits_40 : decode cX7_readsDigits 40 = .ok (.aload_n 0, 1) := by decide +kernel
theorem dX7_readsDigits_41 : decode cX7_readsDigits 41 = .ok (.dup, 1) := by decide +kernel
theorem dX7_readsDigits_42 : decode cX7_readsDigits 42 = .ok (.getfield 80, 3) := by decide +kernel
theorem dX7_readsDigits_45 : decode cX7_readsDigits 45 = .ok (.iconst 1, 1) := by decide +kernel
theorem dX7_readsDigits_46 : decode cX7_readsDigits 46 = .ok (.iadd, 1) := by decide +kernel
theorem dX7_readsDigits_47 : decode cX7_readsDigits 47 = .ok (.putfield 80, 3) := by decide +kernel
theorem dX7_readsDigits_50 : decode cX7_readsDigits 50 = .ok (.iinc 4 1, 3) := by decide +kernel
theorem dX7_readsDigits_53 : decode cX7_readsDigits 53 = .ok (.goto (-48), 3) := by decide +kernel
theorem dX7_readsDigits_56 : decode cX7_readsDigits 56 = .ok (.aload_n 0, 1) := by decide +kernel
theorem dX7_readsDigits_57 : decode cX7_readsDigits 57 = .ok (.getfield 43, 3) := by decide +kernel
theorem dX7_readsDigits_60 : decode cX7_readsDigits 60 = .ok (.iload_n 1, 1) := by decide +kernel
theorem dX7_readsDigits_61 : decode cX7_readsDigits 61 = .ok (.iload_n 3, 1) := by decide +kernel
theorem dX7_readsDigits_62 : decode cX7_readsDigits 62 = .ok (.iastore, 1) := by decide +kernel
theorem dX7_readsDigits_63 : decode cX7_readsDigits 63 = .ok (.iconst 1, 1) := by decide +kernel
theorem dX7_readsDigits_64 : decode cX7_readsDigits 64 = .ok (.ireturn, 1) := by decide +kernel
theorem dX7_readsSigned_0 : decode cX7_readsSigned 0 = .ok (.aload_n 0, 1) := by decide +kernel
theorem dX7_readsSigned_1 : decode cX7_readsSigned 1 = .ok (.invokevirtual 83, 3) := by decide +kernel
theorem dX7_readsSigned_4 : decode cX7_readsSigned 4 = .ok (.istore_n 3, 1) := by decide +kernel
theorem dX7_readsSigned_5 : decode cX7_readsSigned 5 = .ok (.iload_n 3, 1) := by decide +kernel
theorem dX7_readsSigned_6 : decode cX7_readsSigned 6 = .ok (.bipush 43, 2) := by decide +kernel
theorem dX7_readsSigned_8 : decode cX7_readsSigned 8 = .ok (.if_icmp .eq 11, 3) := by decide +kernel
theorem dX7_readsSigned_11 : decode cX7_readsSigned 11 = .ok (.iload_n 3, 1) := by decide +kernel
theorem dX7_readsSigned_12 : decode cX7_readsSigned 12 = .ok (.bipush 45, 2) := by decide +kernel
theorem dX7_readsSigned_14 : decode cX7_readsSigned 14 = .ok (.if_icmp .eq 5, 3) := by decide +kernel
theorem dX7_readsSigned_17 : decode cX7_readsSigned 17 = .ok (.iconst 0, 1) := by decide +kernel
theorem dX7_readsSigned_18 : decode cX7_readsSigned 18 = .ok (.ireturn, 1) := by decide +kernel
theorem dX7_readsSigned_19 : decode cX7_readsSigned 19 = .ok (.aload_n 0, 1) := by decide +kernel
theorem dX7_readsSigned_20 : decode cX7_readsSigned 20 = .ok (.dup, 1) := by decide +kernel
theorem dX7_readsSigned_21 : decode cX7_readsSigned 21 = .ok (.getfield 80, 3) := by decide +kernel
theorem dX7_readsSigned_24 : decode cX7_readsSigned 24 = .ok (.iconst 1, 1) := by decide +kernel
theorem dX7_readsSigned_25 : decode cX7_readsSigned 25 = .ok (.iadd, 1) := by decide +kernel
theorem dX7_readsSigned_26 : decode cX7_readsSigned 26 = .ok (.putfield 80, 3) := by decide +kernel
theorem dX7_readsSigned_29 : decode cX7_readsSigned 29 = .ok (.aload_n 0, 1) := by decide +kernel
theorem dX7_readsSigned_30 : decode cX7_readsSigned 30 = .ok (.iload_n 1, 1) := by decide +kernel
theorem dX7_readsSigned_31 : decode cX7_readsSigned 31 = .ok (.iload_n 2, 1) := by decide +kernel
theorem dX7_readsSigned_32 : decode cX7_readsSigned 32 = .ok (.invokevirtual 91, 3) := by decide +kernel
theorem dX7_readsSigned_35 : decode cX7_readsSigned 35 = .ok (.ifCond .ne 5, 3) := by decide +kernel
theorem dX7_readsSigned_38 : decode cX7_readsSigned 38 = .ok (.iconst 0, 1) := by decide +kernel
theorem dX7_readsSigned_39 : decode cX7_readsSigned 39 = .ok (.ireturn, 1) := by decide +kernel
theorem dX7_readsSigned_40 : decode cX7_readsSigned 40 = .ok (.aload_n 0, 1) := by decide +kernel
theorem dX7_readsSigned_41 : decode cX7_readsSigned 41 = .ok (.getfield 43, 3) := by decide +kernel
theorem dX7_readsSigned_44 : decode cX7_readsSigned 44 = .ok (.iload_n 1, 1) := by decide +kernel
theorem dX7_readsSigned_45 : decode cX7_readsSigned 45 = .ok (.iload_n 3, 1) := by decide +kernel
theorem dX7_readsSigned_46 : decode cX7_readsSigned 46 = .ok (.bipush 45, 2) := by decide +kernel
theorem dX7_readsSigned_48 : decode cX7_readsSigned 48 = .ok (.if_icmp .ne 13, 3) := by decide +kernel
theorem dX7_readsSigned_51 : decode cX7_readsSigned 51 = .ok (.aload_n 0, 1) := by decide +kernel
theorem dX7_readsSigned_52 : decode cX7_readsSigned 52 = .ok (.getfield 43, 3) := by decide +kernel
theorem dX7_readsSigned_55 : decode cX7_readsSigned 55 = .ok (.iload_n 1, 1) := by decide +kernel
theorem dX7_readsSigned_56 : decode cX7_readsSigned 56 = .ok (.iaload, 1) := by decide +kernel
theorem dX7_readsSigned_57 : decode cX7_readsSigned 57 = .ok (.ineg, 1) := by decide +kernel
theorem dX7_readsSigned_58 : decode cX7_readsSigned 58 = .ok (.goto 9, 3) := by decide +kernel
theorem dX7_readsSigned_61 : decode cX7_readsSigned 61 = .ok (.aload_n 0, 1) := by decide +kernel
theorem dX7_readsSigned_62 : decode cX7_readsSigned 62 = .ok (.getfield 43, 3) := by decide +kernel
theorem dX7_readsSigned_65 : decode cX7_readsSigned 65 = .ok (.iload_n 1, 1) := by decide +kernel
theorem dX7_readsSigned_66 : decode cX7_readsSigned 66 = .ok (.iaload, 1) := by decide +kernel
theorem dX7_readsSigned_67 : decode cX7_readsSigned 67 = .ok (.iastore, 1) := by decide +kernel
theorem dX7_readsSigned_68 : decode cX7_readsSigned 68 = .ok (.iconst 1, 1) := by decide +kernel
theorem dX7_readsSigned_69 : decode cX7_readsSigned 69 = .ok (.ireturn, 1) := by decide +kernel
theorem dX7_personOf_0 : decode cX7_personOf 0 = .ok (.iload_n 0, 1) := by decide +kernel
theorem dX7_personOf_1 : decode cX7_personOf 1 = .ok (.tableswitch 81 99 112 #[79, 73, 81, 75, 81, 81, 81, 81, 81, 81, 77, 81, 81, 71], 71) := by decide +kernel
theorem dX7_personOf_72 : decode cX7_personOf 72 = .ok (.iconst 0, 1) := by decide +kernel
theorem dX7_personOf_73 : decode cX7_personOf 73 = .ok (.ireturn, 1) := by decide +kernel
theorem dX7_personOf_74 : decode cX7_personOf 74 = .ok (.iconst 1, 1) := by decide +kernel
theorem dX7_personOf_75 : decode cX7_personOf 75 = .ok (.ireturn, 1) := by decide +kernel
theorem dX7_personOf_76 : decode cX7_personOf 76 = .ok (.iconst 2, 1) := by decide +kernel
theorem dX7_personOf_77 : decode cX7_personOf 77 = .ok (.ireturn, 1) := by decide +kernel
theorem dX7_personOf_78 : decode cX7_personOf 78 = .ok (.iconst 3, 1) := by decide +kernel
theorem dX7_personOf_79 : decode cX7_personOf 79 = .ok (.ireturn, 1) := by decide +kernel
theorem dX7_personOf_80 : decode cX7_personOf 80 = .ok (.iconst 4, 1) := by decide +kernel
theorem dX7_personOf_81 : decode cX7_personOf 81 = .ok (.ireturn, 1) := by decide +kernel
theorem dX7_personOf_82 : decode cX7_personOf 82 = .ok (.iconst (-1), 1) := by decide +kernel
theorem dX7_personOf_83 : decode cX7_personOf 83 = .ok (.ireturn, 1) := by decide +kernel
theorem dX7_driftOf_0 : decode cX7_driftOf 0 = .ok (.iload_n 0, 1) := by decide +kernel
theorem dX7_driftOf_1 : decode cX7_driftOf 1 = .ok (.lookupswitch 61 #[(99, 55), (106, 57), (115, 51), (117, 59), (119, 53)], 51) := by decide +kernel
theorem dX7_driftOf_52 : decode cX7_driftOf 52 = .ok (.iconst 0, 1) := by decide +kernel
theorem dX7_driftOf_53 : decode cX7_driftOf 53 = .ok (.ireturn, 1) := by decide +kernel
theorem dX7_driftOf_54 : decode cX7_driftOf 54 = .ok (.iconst 1, 1) := by decide +kernel
theorem dX7_driftOf_55 : decode cX7_driftOf 55 = .ok (.ireturn, 1) := by decide +kernel
theorem dX7_driftOf_56 : decode cX7_driftOf 56 = .ok (.iconst 2, 1) := by decide +kernel
theorem dX7_driftOf_57 : decode cX7_driftOf 57 = .ok (.ireturn, 1) := by decide +kernel
theorem dX7_driftOf_58 : decode cX7_driftOf 58 = .ok (.iconst 3, 1) := by decide +kernel
theorem dX7_driftOf_59 : decode cX7_driftOf 59 = .ok (.ireturn, 1) := by decide +kernel
theorem dX7_driftOf_60 : decode cX7_driftOf 60 = .ok (.iconst 4, 1) := by decide +kernel
theorem dX7_driftOf_61 : decode cX7_driftOf 61 = .ok (.ireturn, 1) := by decide +kernel
theorem dX7_driftOf_62 : decode cX7_driftOf 62 = .ok (.iconst (-1), 1) := by decide +kernel
theorem dX7_driftOf_63 : decode cX7_driftOf 63 = .ok (.ireturn, 1) := by decide +kernel
theorem dX7_ruleOf_0 : decode cX7_ruleOf 0 = .ok (.iload_n 0, 1) := by decide +kernel
theorem dX7_ruleOf_1 : decode cX7_ruleOf 1 = .ok (.tableswitch 81 98 111 #[77, 81, 81, 71, 81, 81, 81, 81, 81, 75, 79, 81, 81, 73], 71) := by decide +kernel
theorem dX7_ruleOf_72 : decode cX7_ruleOf 72 = .ok (.iconst 0, 1) := by decide +kernel
theorem dX7_ruleOf_73 : decode cX7_ruleOf 73 = .ok (.ireturn, 1) := by decide +kernel
theorem dX7_ruleOf_74 : decode cX7_ruleOf 74 = .ok (.iconst 1, 1) := by decide +kernel
theorem dX7_ruleOf_75 : decode cX7_ruleOf 75 = .ok (.ireturn, 1) := by decide +kernel
theorem dX7_ruleOf_76 : decode cX7_ruleOf 76 = .ok (.iconst 2, 1) := by decide +kernel
theorem dX7_ruleOf_77 : decode cX7_ruleOf 77 = .ok (.ireturn, 1) := by decide +kernel
theorem dX7_ruleOf_78 : decode cX7_ruleOf 78 = .ok (.iconst 3, 1) := by decide +kernel
theorem dX7_ruleOf_79 : decode cX7_ruleOf 79 = .ok (.ireturn, 1) := by decide +kernel
theorem dX7_ruleOf_80 : decode cX7_ruleOf 80 = .ok (.iconst 4, 1) := by decide +kernel
theorem dX7_ruleOf_81 : decode cX7_ruleOf 81 = .ok (.ireturn, 1) := by decide +kernel
theorem dX7_ruleOf_82 : decode cX7_ruleOf 82 = .ok (.iconst (-1), 1) := by decide +kernel
theorem dX7_ruleOf_83 : decode cX7_ruleOf 83 = .ok (.ireturn, 1) := by decide +kernel
theorem dX7_readsKind_0 : decode cX7_readsKind 0 = .ok (.iload_n 2, 1) := by decide +kernel
theorem dX7_readsKind_1 : decode cX7_readsKind 1 = .ok (.ifCond .ge 5, 3) := by decide +kernel
theorem dX7_readsKind_4 : decode cX7_readsKind 4 = .ok (.iconst 0, 1) := by decide +kernel
theorem dX7_readsKind_5 : decode cX7_readsKind 5 = .ok (.ireturn, 1) := by decide +kernel
theorem dX7_readsKind_6 : decode cX7_readsKind 6 = .ok (.aload_n 0, 1) := by decide +kernel
theorem dX7_readsKind_7 : decode cX7_readsKind 7 = .ok (.getfield 43, 3) := by decide +kernel
theorem dX7_readsKind_10 : decode cX7_readsKind 10 = .ok (.iload_n 1, 1) := by decide +kernel
theorem dX7_readsKind_11 : decode cX7_readsKind 11 = .ok (.iload_n 2, 1) := by decide +kernel
theorem dX7_readsKind_12 : decode cX7_readsKind 12 = .ok (.iastore, 1) := by decide +kernel
theorem dX7_readsKind_13 : decode cX7_readsKind 13 = .ok (.aload_n 0, 1) := by decide +kernel
theorem dX7_readsKind_14 : decode cX7_readsKind 14 = .ok (.dup, 1) := by decide +kernel
theorem dX7_readsKind_15 : decode cX7_readsKind 15 = .ok (.getfield 80, 3) := by decide +kernel
theorem dX7_readsKind_18 : decode cX7_readsKind 18 = .ok (.iconst 1, 1) := by decide +kernel
theorem dX7_readsKind_19 : decode cX7_readsKind 19 = .ok (.iadd, 1) := by decide +kernel
theorem dX7_readsKind_20 : decode cX7_readsKind 20 = .ok (.putfield 80, 3) := by decide +kernel
theorem dX7_readsKind_23 : decode cX7_readsKind 23 = .ok (.iconst 1, 1) := by decide +kernel
theorem dX7_readsKind_24 : decode cX7_readsKind 24 = .ok (.ireturn, 1) := by decide +kernel
theorem dX7_readsPerson_0 : decode cX7_readsPerson 0 = .ok (.aload_n 0, 1) := by decide +kernel
theorem dX7_readsPerson_1 : decode cX7_readsPerson 1 = .ok (.iload_n 1, 1) := by decide +kernel
theorem dX7_readsPerson_2 : decode cX7_readsPerson 2 = .ok (.aload_n 0, 1) := by decide +kernel
theorem dX7_readsPerson_3 : decode cX7_readsPerson 3 = .ok (.invokevirtual 83, 3) := by decide +kernel
theorem dX7_readsPerson_6 : decode cX7_readsPerson 6 = .ok (.invokestatic 95, 3) := by decide +kernel
theorem dX7_readsPerson_9 : decode cX7_readsPerson 9 = .ok (.invokevirtual 98, 3) := by decide +kernel
theorem dX7_readsPerson_12 : decode cX7_readsPerson 12 = .ok (.ifCond .ne 5, 3) := by decide +kernel
theorem dX7_readsPerson_15 : decode cX7_readsPerson 15 = .ok (.iconst 0, 1) := by decide +kernel
theorem dX7_readsPerson_16 : decode cX7_readsPerson 16 = .ok (.ireturn, 1) := by decide +kernel
theorem dX7_readsPerson_17 : decode cX7_readsPerson 17 = .ok (.iconst 1, 1) := by decide +kernel
theorem dX7_readsPerson_18 : decode cX7_readsPerson 18 = .ok (.istore_n 2, 1) := by decide +kernel
theorem dX7_readsPerson_19 : decode cX7_readsPerson 19 = .ok (.iload_n 2, 1) := by decide +kernel
theorem dX7_readsPerson_20 : decode cX7_readsPerson 20 = .ok (.bipush 6, 2) := by decide +kernel
theorem dX7_readsPerson_22 : decode cX7_readsPerson 22 = .ok (.if_icmp .ge 22, 3) := by decide +kernel
theorem dX7_readsPerson_25 : decode cX7_readsPerson 25 = .ok (.aload_n 0, 1) := by decide +kernel
theorem dX7_readsPerson_26 : decode cX7_readsPerson 26 = .ok (.iload_n 1, 1) := by decide +kernel
theorem dX7_readsPerson_27 : decode cX7_readsPerson 27 = .ok (.iload_n 2, 1) := by decide +kernel
theorem dX7_readsPerson_28 : decode cX7_readsPerson 28 = .ok (.iadd, 1) := by decide +kernel
theorem dX7_readsPerson_29 : decode cX7_readsPerson 29 = .ok (.iconst 1, 1) := by decide +kernel
theorem dX7_readsPerson_30 : decode cX7_readsPerson 30 = .ok (.invokevirtual 91, 3) := by decide +kernel
theorem dX7_readsPerson_33 : decode cX7_readsPerson 33 = .ok (.ifCond .ne 5, 3) := by decide +kernel
theorem dX7_readsPerson_36 : decode cX7_readsPerson 36 = .ok (.iconst 0, 1) := by decide +kernel
theorem dX7_readsPerson_37 : decode cX7_readsPerson 37 = .ok (.ireturn, 1) := by decide +kernel
theorem dX7_readsPerson_38 : decode cX7_readsPerson 38 = .ok (.iinc 2 1, 3) := by decide +kernel
theorem dX7_readsPerson_41 : decode cX7_readsPerson 41 = .ok (.goto (-22), 3) := by decide +kernel
theorem dX7_readsPerson_44 : decode cX7_readsPerson 44 = .ok (.iconst 1, 1) := by decide +kernel
theorem dX7_readsPerson_45 : decode cX7_readsPerson 45 = .ok (.ireturn, 1) := by decide +kernel
theorem dX7_readsAll_0 : decode cX7_readsAll 0 = .ok (.iload_n 1, 1) := by decide +kernel
theorem dX7_readsAll_1 : decode cX7_readsAll 1 = .ok (.lookupswitch 165 #[(100, 90), (112, 51), (114, 122), (115, 64), (119, 57)], 51) := by decide +kernel
theorem dX7_readsAll_52 : decode cX7_readsAll 52 = .ok (.aload_n 0, 1) := by decide +kernel
theorem dX7_readsAll_53 : decode cX7_readsAll 53 = .ok (.iload_n 2, 1) := by decide +kernel
theorem dX7_readsAll_54 : decode cX7_readsAll 54 = .ok (.invokevirtual 101, 3) := by decide +kernel
theorem dX7_readsAll_57 : decode cX7_readsAll 57 = .ok (.ireturn, 1) := by decide +kernel
theorem dX7_readsAll_58 : decode cX7_readsAll 58 = .ok (.aload_n 0, 1) := by decide +kernel
