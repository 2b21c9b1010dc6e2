theorem dX0_init_0 : decode cX0_init 0 = .ok (.aload_n 0, 1) := by decide +kernel
theorem dX0_init_1 : decode cX0_init 1 = .ok (.invokespecial 3, 3) := by decide +kernel
theorem dX0_init_4 : decode cX0_init 4 = .ok (.aload_n 0, 1) := by decide +kernel
theorem dX0_init_5 : decode cX0_init 5 = .ok (.iconst 5, 1) := by decide +kernel
theorem dX0_init_6 : decode cX0_init 6 = .ok (.newarray .int, 2) := by decide +kernel
theorem dX0_init_8 : decode cX0_init 8 = .ok (.putfield 9, 3) := by decide +kernel
theorem dX0_init_11 : decode cX0_init 11 = .ok (.aload_n 0, 1) := by decide +kernel
theorem dX0_init_12 : decode cX0_init 12 = .ok (.iconst 5, 1) := by decide +kernel
theorem dX0_init_13 : decode cX0_init 13 = .ok (.newarray .int, 2) := by decide +kernel
theorem dX0_init_15 : decode cX0_init 15 = .ok (.putfield 15, 3) := by decide +kernel
theorem dX0_init_18 : decode cX0_init 18 = .ok (.aload_n 0, 1) := by decide +kernel
theorem dX0_init_19 : decode cX0_init 19 = .ok (.iconst 5, 1) := by decide +kernel
theorem dX0_init_20 : decode cX0_init 20 = .ok (.newarray .int, 2) := by decide +kernel
theorem dX0_init_22 : decode cX0_init 22 = .ok (.putfield 18, 3) := by decide +kernel
theorem dX0_init_25 : decode cX0_init 25 = .ok (.aload_n 0, 1) := by decide +kernel
theorem dX0_init_26 : decode cX0_init 26 = .ok (.bipush (-9), 2) := by decide +kernel
theorem dX0_init_28 : decode cX0_init 28 = .ok (.putfield 21, 3) := by decide +kernel
theorem dX0_init_31 : decode cX0_init 31 = .ok (.return_, 1) := by decide +kernel
theorem dX0_clear_0 : decode cX0_clear 0 = .ok (.iconst 0, 1) := by decide +kernel
theorem dX0_clear_1 : decode cX0_clear 1 = .ok (.istore_n 1, 1) := by decide +kernel
theorem dX0_clear_2 : decode cX0_clear 2 = .ok (.iload_n 1, 1) := by decide +kernel
theorem dX0_clear_3 : decode cX0_clear 3 = .ok (.iconst 5, 1) := by decide +kernel
theorem dX0_clear_4 : decode cX0_clear 4 = .ok (.if_icmp .ge 30, 3) := by decide +kernel
theorem dX0_clear_7 : decode cX0_clear 7 = .ok (.aload_n 0, 1) := by decide +kernel
theorem dX0_clear_8 : decode cX0_clear 8 = .ok (.getfield 9, 3) := by decide +kernel
theorem dX0_clear_11 : decode cX0_clear 11 = .ok (.iload_n 1, 1) := by decide +kernel
theorem dX0_clear_12 : decode cX0_clear 12 = .ok (.iconst 0, 1) := by decide +kernel
theorem dX0_clear_13 : decode cX0_clear 13 = .ok (.iastore, 1) := by decide +kernel
theorem dX0_clear_14 : decode cX0_clear 14 = .ok (.aload_n 0, 1) := by decide +kernel
theorem dX0_clear_15 : decode cX0_clear 15 = .ok (.getfield 15, 3) := by decide +kernel
theorem dX0_clear_18 : decode cX0_clear 18 = .ok (.iload_n 1, 1) := by decide +kernel
theorem dX0_clear_19 : decode cX0_clear 19 = .ok (.iconst 0, 1) := by decide +kernel
theorem dX0_clear_20 : decode cX0_clear 20 = .ok (.iastore, 1) := by decide +kernel
theorem dX0_clear_21 : decode cX0_clear 21 = .ok (.aload_n 0, 1) := by decide +kernel
theorem dX0_clear_22 : decode cX0_clear 22 = .ok (.getfield 18, 3) := by decide +kernel
theorem dX0_clear_25 : decode cX0_clear 25 = .ok (.iload_n 1, 1) := by decide +kernel
theorem dX0_clear_26 : decode cX0_clear 26 = .ok (.iconst 0, 1) := by decide +kernel
theorem dX0_clear_27 : decode cX0_clear 27 = .ok (.iastore, 1) := by decide +kernel
theorem dX0_clear_28 : decode cX0_clear 28 = .ok (.iinc 1 1, 3) := by decide +kernel
theorem dX0_clear_31 : decode cX0_clear 31 = .ok (.goto (-29), 3) := by decide +kernel
theorem dX0_clear_34 : decode cX0_clear 34 = .ok (.aload_n 0, 1) := by decide +kernel
theorem dX0_clear_35 : decode cX0_clear 35 = .ok (.iconst 0, 1) := by decide +kernel
theorem dX0_clear_36 : decode cX0_clear 36 = .ok (.putfield 25, 3) := by decide +kernel
theorem dX0_clear_39 : decode cX0_clear 39 = .ok (.aload_n 0, 1) := by decide +kernel
theorem dX0_clear_40 : decode cX0_clear 40 = .ok (.iconst 0, 1) := by decide +kernel
theorem dX0_clear_41 : decode cX0_clear 41 = .ok (.putfield 28, 3) := by decide +kernel
theorem dX0_clear_44 : decode cX0_clear 44 = .ok (.aload_n 0, 1) := by decide +kernel
theorem dX0_clear_45 : decode cX0_clear 45 = .ok (.bipush (-9), 2) := by decide +kernel
theorem dX0_clear_47 : decode cX0_clear 47 = .ok (.putfield 21, 3) := by decide +kernel
theorem dX0_clear_50 : decode cX0_clear 50 = .ok (.return_, 1) := by decide +kernel
theorem dX0_noteUp_0 : decode cX0_noteUp 0 = .ok (.iload_n 1, 1) := by decide +kernel
theorem dX0_noteUp_1 : decode cX0_noteUp 1 = .ok (.ifCond .lt 33, 3) := by decide +kernel
theorem dX0_noteUp_4 : decode cX0_noteUp 4 = .ok (.iload_n 1, 1) := by decide +kernel
theorem dX0_noteUp_5 : decode cX0_noteUp 5 = .ok (.iconst 5, 1) := by decide +kernel
theorem dX0_noteUp_6 : decode cX0_noteUp 6 = .ok (.if_icmp .ge 28, 3) := by decide +kernel
theorem dX0_noteUp_9 : decode cX0_noteUp 9 = .ok (.aload_n 0, 1) := by decide +kernel
theorem dX0_noteUp_10 : decode cX0_noteUp 10 = .ok (.getfield 15, 3) := by decide +kernel
theorem dX0_noteUp_13 : decode cX0_noteUp 13 = .ok (.iload_n 1, 1) := by decide +kernel
theorem dX0_noteUp_14 : decode cX0_noteUp 14 = .ok (.dup2, 1) := by decide +kernel
theorem dX0_noteUp_15 : decode cX0_noteUp 15 = .ok (.iaload, 1) := by decide +kernel
theorem dX0_noteUp_16 : decode cX0_noteUp 16 = .ok (.iconst 1, 1) := by decide +kernel
theorem dX0_noteUp_17 : decode cX0_noteUp 17 = .ok (.iadd, 1) := by decide +kernel
theorem dX0_noteUp_18 : decode cX0_noteUp 18 = .ok (.iastore, 1) := by decide +kernel
theorem dX0_noteUp_19 : decode cX0_noteUp 19 = .ok (.aload_n 0, 1) := by decide +kernel
theorem dX0_noteUp_20 : decode cX0_noteUp 20 = .ok (.getfield 18, 3) := by decide +kernel
theorem dX0_noteUp_23 : decode cX0_noteUp 23 = .ok (.iload_n 1, 1) := by decide +kernel
theorem dX0_noteUp_24 : decode cX0_noteUp 24 = .ok (.dup2, 1) := by decide +kernel
theorem dX0_noteUp_25 : decode cX0_noteUp 25 = .ok (.iaload, 1) := by decide +kernel
theorem dX0_noteUp_26 : decode cX0_noteUp 26 = .ok (.iload_n 2, 1) := by decide +kernel
theorem dX0_noteUp_27 : decode cX0_noteUp 27 = .ok (.iadd, 1) := by decide +kernel
theorem dX0_noteUp_28 : decode cX0_noteUp 28 = .ok (.iastore, 1) := by decide +kernel
theorem dX0_noteUp_29 : decode cX0_noteUp 29 = .ok (.aload_n 0, 1) := by decide +kernel
theorem dX0_noteUp_30 : decode cX0_noteUp 30 = .ok (.iload_n 1, 1) := by decide +kernel
theorem dX0_noteUp_31 : decode cX0_noteUp 31 = .ok (.putfield 21, 3) := by decide +kernel
theorem dX0_noteUp_34 : decode cX0_noteUp 34 = .ok (.return_, 1) := by decide +kernel
theorem dX0_noteBother_0 : decode cX0_noteBother 0 = .ok (.iload_n 1, 1) := by decide +kernel
theorem dX0_noteBother_1 : decode cX0_noteBother 1 = .ok (.ifCond .lt 18, 3) := by decide +kernel
theorem dX0_noteBother_4 : decode cX0_noteBother 4 = .ok (.iload_n 1, 1) := by decide +kernel
theorem dX0_noteBother_5 : decode cX0_noteBother 5 = .ok (.iconst 5, 1) := by decide +kernel
theorem dX0_noteBother_6 : decode cX0_noteBother 6 = .ok (.if_icmp .ge 13, 3) := by decide +kernel
theorem dX0_noteBother_9 : decode cX0_noteBother 9 = .ok (.aload_n 0, 1) := by decide +kernel
theorem dX0_noteBother_10 : decode cX0_noteBother 10 = .ok (.getfield 9, 3) := by decide +kernel
theorem dX0_noteBother_13 : decode cX0_noteBother 13 = .ok (.iload_n 1, 1) := by decide +kernel
theorem dX0_noteBother_14 : decode cX0_noteBother 14 = .ok (.dup2, 1) := by decide +kernel
theorem dX0_noteBother_15 : decode cX0_noteBother 15 = .ok (.iaload, 1) := by decide +kernel
theorem dX0_noteBother_16 : decode cX0_noteBother 16 = .ok (.iload_n 2, 1) := by decide +kernel
theorem dX0_noteBother_17 : decode cX0_noteBother 17 = .ok (.iadd, 1) := by decide +kernel
theorem dX0_noteBother_18 : decode cX0_noteBother 18 = .ok (.iastore, 1) := by decide +kernel
theorem dX0_noteBother_19 : decode cX0_noteBother 19 = .ok (.return_, 1) := by decide +kernel
theorem dX0_noteOff_0 : decode cX0_noteOff 0 = .ok (.aload_n 0, 1) := by decide +kernel
theorem dX0_noteOff_1 : decode cX0_noteOff 1 = .ok (.aload_n 0, 1) := by decide +kernel
theorem dX0_noteOff_2 : decode cX0_noteOff 2 = .ok (.getfield 25, 3) := by decide +kernel
theorem dX0_noteOff_5 : decode cX0_noteOff 5 = .ok (.iload_n 1, 1) := by decide +kernel
theorem dX0_noteOff_6 : decode cX0_noteOff 6 = .ok (.invokestatic 31, 3) := by decide +kernel
theorem dX0_noteOff_9 : decode cX0_noteOff 9 = .ok (.putfield 25, 3) := by decide +kernel
theorem dX0_noteOff_12 : decode cX0_noteOff 12 = .ok (.aload_n 0, 1) := by decide +kernel
theorem dX0_noteOff_13 : decode cX0_noteOff 13 = .ok (.aload_n 0, 1) := by decide +kernel
theorem dX0_noteOff_14 : decode cX0_noteOff 14 = .ok (.getfield 28, 3) := by decide +kernel
theorem dX0_noteOff_17 : decode cX0_noteOff 17 = .ok (.iload_n 2, 1) := by decide +kernel
theorem dX0_noteOff_18 : decode cX0_noteOff 18 = .ok (.invokestatic 31, 3) := by decide +kernel
theorem dX0_noteOff_21 : decode cX0_noteOff 21 = .ok (.putfield 28, 3) := by decide +kernel
theorem dX0_noteOff_24 : decode cX0_noteOff 24 = .ok (.return_, 1) := by decide +kernel
theorem dX0_told_0 : decode cX0_told 0 = .ok (.iload_n 1, 1) := by decide +kernel
theorem dX0_told_1 : decode cX0_told 1 = .ok (.tableswitch 54 0 3 #[31, 36, 41, 49], 31) := by decide +kernel
theorem dX0_told_32 : decode cX0_told 32 = .ok (.aload_n 0, 1) := by decide +kernel
theorem dX0_told_33 : decode cX0_told 33 = .ok (.invokevirtual 37, 3) := by decide +kernel
theorem dX0_told_36 : decode cX0_told 36 = .ok (.ireturn, 1) := by decide +kernel
theorem dX0_told_37 : decode cX0_told 37 = .ok (.aload_n 0, 1) := by decide +kernel
theorem dX0_told_38 : decode cX0_told 38 = .ok (.invokevirtual 41, 3) := by decide +kernel
theorem dX0_told_41 : decode cX0_told 41 = .ok (.ireturn, 1) := by decide +kernel
theorem dX0_told_42 : decode cX0_told 42 = .ok (.aload_n 0, 1) := by decide +kernel
theorem dX0_told_43 : decode cX0_told 43 = .ok (.getfield 18, 3) := by decide +kernel
theorem dX0_told_46 : decode cX0_told 46 = .ok (.invokestatic 44, 3) := by decide +kernel
theorem dX0_told_49 : decode cX0_told 49 = .ok (.ireturn, 1) := by decide +kernel
theorem dX0_told_50 : decode cX0_told 50 = .ok (.aload_n 0, 1) := by decide +kernel
theorem dX0_told_51 : decode cX0_told 51 = .ok (.getfield 25, 3) := by decide +kernel
theorem dX0_told_54 : decode cX0_told 54 = .ok (.ireturn, 1) := by decide +kernel
theorem dX0_told_55 : decode cX0_told 55 = .ok (.aload_n 0, 1) := by decide +kernel
theorem dX0_told_56 : decode cX0_told 56 = .ok (.getfield 28, 3) := by decide +kernel
theorem dX0_told_59 : decode cX0_told 59 = .ok (.ireturn, 1) := by decide +kernel
theorem dX0_toldOf_0 : decode cX0_toldOf 0 = .ok (.iload_n 1, 1) := by decide +kernel
theorem dX0_toldOf_1 : decode cX0_toldOf 1 = .ok (.ifCond .lt 8, 3) := by decide +kernel
theorem dX0_toldOf_4 : decode cX0_toldOf 4 = .ok (.iload_n 1, 1) := by decide +kernel
theorem dX0_toldOf_5 : decode cX0_toldOf 5 = .ok (.iconst 5, 1) := by decide +kernel
theorem dX0_toldOf_6 : decode cX0_toldOf 6 = .ok (.if_icmp .lt 5, 3) := by decide +kernel
theorem dX0_toldOf_9 : decode cX0_toldOf 9 = .ok (.iconst 0, 1) := by decide +kernel
theorem dX0_toldOf_10 : decode cX0_toldOf 10 = .ok (.ireturn, 1) := by decide +kernel
theorem dX0_toldOf_11 : decode cX0_toldOf 11 = .ok (.iload_n 2, 1) := by decide +kernel
theorem dX0_toldOf_12 : decode cX0_toldOf 12 = .ok (.lookupswitch 42 #[(0, 28), (1, 35)], 28) := by decide +kernel
theorem dX0_toldOf_40 : decode cX0_toldOf 40 = .ok (.aload_n 0, 1) := by decide +kernel
theorem dX0_toldOf_41 : decode cX0_toldOf 41 = .ok (.getfield 9, 3) := by decide +kernel
theorem dX0_toldOf_44 : decode cX0_toldOf 44 = .ok (.iload_n 1, 1) := by decide +kernel
theorem dX0_toldOf_45 : decode cX0_toldOf 45 = .ok (.iaload, 1) := by decide +kernel
theorem dX0_toldOf_46 : decode cX0_toldOf 46 = .ok (.ireturn, 1) := by decide +kernel
theorem dX0_toldOf_47 : decode cX0_toldOf 47 = .ok (.aload_n 0, 1) := by decide +kernel
theorem dX0_toldOf_48 : decode cX0_toldOf 48 = .ok (.getfield 15, 3) := by decide +kernel
theorem dX0_toldOf_51 : decode cX0_toldOf 51 = .ok (.iload_n 1, 1) := by decide +kernel
theorem dX0_toldOf_52 : decode cX0_toldOf 52 = .ok (.iaload, 1) := by decide +kernel
theorem dX0_toldOf_53 : decode cX0_toldOf 53 = .ok (.ireturn, 1) := by decide +kernel
theorem dX0_toldOf_54 : decode cX0_toldOf 54 = .ok (.aload_n 0, 1) := by decide +kernel
theorem dX0_toldOf_55 : decode cX0_toldOf 55 = .ok (.getfield 9, 3) := by decide +kernel
theorem dX0_toldOf_58 : decode cX0_toldOf 58 = .ok (.iload_n 1, 1) := by decide +kernel
theorem dX0_toldOf_59 : decode cX0_toldOf 59 = .ok (.iaload, 1) := by decide +kernel
theorem dX0_toldOf_60 : decode cX0_toldOf 60 = .ok (.aload_n 0, 1) := by decide +kernel
theorem dX0_toldOf_61 : decode cX0_toldOf 61 = .ok (.getfield 18, 3) := by decide +kernel
theorem dX0_toldOf_64 : decode cX0_toldOf 64 = .ok (.iload_n 1, 1) := by decide +kernel
theorem dX0_toldOf_65 : decode cX0_toldOf 65 = .ok (.iaload, 1) := by decide +kernel
theorem dX0_toldOf_66 : decode cX0_toldOf 66 = .ok (.iadd, 1) := by decide +kernel
theorem dX0_toldOf_67 : decode cX0_toldOf 67 = .ok (.ireturn, 1) := by decide +kernel
theorem dX0_allCost_0 : decode cX0_allCost 0 = .ok (.aload_n 0, 1) := by decide +kernel
theorem dX0_allCost_1 : decode cX0_allCost 1 = .ok (.getfield 9, 3) := by decide +kernel
theorem dX0_allCost_4 : decode cX0_allCost 4 = .ok (.invokestatic 44, 3) := by decide +kernel
theorem dX0_allCost_7 : decode cX0_allCost 7 = .ok (.aload_n 0, 1) := by decide +kernel
theorem dX0_allCost_8 : decode cX0_allCost 8 = .ok (.getfield 18, 3) := by decide +kernel
theorem dX0_allCost_11 : decode cX0_allCost 11 = .ok (.invokestatic 44, 3) := by decide +kernel
theorem dX0_allCost_14 : decode cX0_allCost 14 = .ok (.iadd, 1) := by decide +kernel
theorem dX0_allCost_15 : decode cX0_allCost 15 = .ok (.ireturn, 1) := by decide +kernel
theorem dX0_allUps_0 : decode cX0_allUps 0 = .ok (.aload_n 0, 1) := by decide +kernel
theorem dX0_allUps_1 : decode cX0_allUps 1 = .ok (.getfield 15, 3) := by decide +kernel
theorem dX0_allUps_4 : decode cX0_allUps 4 = .ok (.invokestatic 44, 3) := by decide +kernel
theorem dX0_allUps_7 : decode cX0_allUps 7 = .ok (.ireturn, 1) := by decide +kernel
theorem dX0_sum_0 : decode cX0_sum 0 = .ok (.iconst 0, 1) := by decide +kernel
theorem dX0_sum_1 : decode cX0_sum 1 = .ok (.istore_n 1, 1) := by decide +kernel
theorem dX0_sum_2 : decode cX0_sum 2 = .ok (.iconst 0, 1) := by decide +kernel
theorem dX0_sum_3 : decode cX0_sum 3 = .ok (.istore_n 2, 1) := by decide +kernel
theorem dX0_sum_4 : decode cX0_sum 4 = .ok (.iload_n 2, 1) := by decide +kernel
theorem dX0_sum_5 : decode cX0_sum 5 = .ok (.aload_n 0, 1) := by decide +kernel
theorem dX0_sum_6 : decode cX0_sum 6 = .ok (.arraylength, 1) := by decide +kernel
theorem dX0_sum_7 : decode cX0_sum 7 = .ok (.if_icmp .ge 15, 3) := by decide +kernel
theorem dX0_sum_10 : decode cX0_sum 10 = .ok (.iload_n 1, 1) := by decide +kernel
theorem dX0_sum_11 : decode cX0_sum 11 = .ok (.aload_n 0, 1) := by decide +kernel
theorem dX0_sum_12 : decode cX0_sum 12 = .ok (.iload_n 2, 1) := by decide +kernel
theorem dX0_sum_13 : decode cX0_sum 13 = .ok (.iaload, 1) := by decide +kernel
theorem dX0_sum_14 : decode cX0_sum 14 = .ok (.iadd, 1) := by decide +kernel
theorem dX0_sum_15 : decode cX0_sum 15 = .ok (.istore_n 1, 1) := by decide +kernel
theorem dX0_sum_16 : decode cX0_sum 16 = .ok (.iinc 2 1, 3) := by decide +kernel
theorem dX0_sum_19 : decode cX0_sum 19 = .ok (.goto (-15), 3) := by decide +kernel
theorem dX0_sum_22 : decode cX0_sum 22 = .ok (.iload_n 1, 1) := by decide +kernel
theorem dX0_sum_23 : decode cX0_sum 23 = .ok (.ireturn, 1) := by decide +kernel
theorem dX1_init_0 : decode cX1_init 0 = .ok (.aload_n 0, 1) := by decide +kernel
theorem dX1_init_1 : decode cX1_init 1 = .ok (.invokespecial 1, 3) := by decide +kernel
theorem dX1_init_4 : decode cX1_init 4 = .ok (.aload_n 0, 1) := by decide +kernel
theorem dX1_init_5 : decode cX1_init 5 = .ok (.iconst 0, 1) := by decide +kernel
theorem dX1_init_6 : decode cX1_init 6 = .ok (.putfield 7, 3) := by decide +kernel
theorem dX1_init_9 : decode cX1_init 9 = .ok (.aload_n 0, 1) := by decide +kernel
theorem dX1_init_10 : decode cX1_init 10 = .ok (.iconst 1, 1) := by decide +kernel
theorem dX1_init_11 : decode cX1_init 11 = .ok (.putfield 13, 3) := by decide +kernel
theorem dX1_init_14 : decode cX1_init 14 = .ok (.return_, 1) := by decide +kernel
theorem dX1_become_0 : decode cX1_become 0 = .ok (.aload_n 0, 1) := by decide +kernel
theorem dX1_become_1 : decode cX1_become 1 = .ok (.aload_n 1, 1) := by decide +kernel
theorem dX1_become_2 : decode cX1_become 2 = .ok (.getfield 7, 3) := by decide +kernel
theorem dX1_become_5 : decode cX1_become 5 = .ok (.putfield 7, 3) := by decide +kernel
theorem dX1_become_8 : decode cX1_become 8 = .ok (.aload_n 0, 1) := by decide +kernel
theorem dX1_become_9 : decode cX1_become 9 = .ok (.aload_n 1, 1) := by decide +kernel
theorem dX1_become_10 : decode cX1_become 10 = .ok (.getfield 13, 3) := by decide +kernel
theorem dX1_become_13 : decode cX1_become 13 = .ok (.putfield 13, 3) := by decide +kernel
theorem dX1_become_16 : decode cX1_become 16 = .ok (.return_, 1) := by decide +kernel
theorem dX1_amountIn_0 : decode cX1_amountIn 0 = .ok (.aload_n 0, 1) := by decide +kernel
theorem dX1_amountIn_1 : decode cX1_amountIn 1 = .ok (.getfield 7, 3) := by decide +kernel
theorem dX1_amountIn_4 : decode cX1_amountIn 4 = .ok (.tableswitch 86 1 4 #[32, 38, 47, 64], 32) := by decide +kernel
theorem dX1_amountIn_36 : decode cX1_amountIn 36 = .ok (.aload_n 0, 1) := by decide +kernel
theorem dX1_amountIn_37 : decode cX1_amountIn 37 = .ok (.iload_n 1, 1) := by decide +kernel
theorem dX1_amountIn_38 : decode cX1_amountIn 38 = .ok (.invokevirtual 16, 3) := by decide +kernel
theorem dX1_amountIn_41 : decode cX1_amountIn 41 = .ok (.ireturn, 1) := by decide +kernel
theorem dX1_amountIn_42 : decode cX1_amountIn 42 = .ok (.aload_n 0, 1) := by decide +kernel
theorem dX1_amountIn_43 : decode cX1_amountIn 43 = .ok (.iload_n 1, 1) := by decide +kernel
theorem dX1_amountIn_44 : decode cX1_amountIn 44 = .ok (.bipush 20, 2) := by decide +kernel
theorem dX1_amountIn_46 : decode cX1_amountIn 46 = .ok (.idiv, 1) := by decide +kernel
theorem dX1_amountIn_47 : decode cX1_amountIn 47 = .ok (.invokevirtual 20, 3) := by decide +kernel
theorem dX1_amountIn_50 : decode cX1_amountIn 50 = .ok (.ireturn, 1) := by decide +kernel
theorem dX1_amountIn_51 : decode cX1_amountIn 51 = .ok (.iload_n 1, 1) := by decide +kernel
theorem dX1_amountIn_52 : decode cX1_amountIn 52 = .ok (.iconst 3, 1) := by decide +kernel
theorem dX1_amountIn_53 : decode cX1_amountIn 53 = .ok (.irem, 1) := by decide +kernel
theorem dX1_amountIn_54 : decode cX1_amountIn 54 = .ok (.ifCond .ne 12, 3) := by decide +kernel
theorem dX1_amountIn_57 : decode cX1_amountIn 57 = .ok (.iconst 3, 1) := by decide +kernel
theorem dX1_amountIn_58 : decode cX1_amountIn 58 = .ok (.aload_n 0, 1) := by decide +kernel
theorem dX1_amountIn_59 : decode cX1_amountIn 59 = .ok (.getfield 13, 3) := by decide +kernel
theorem dX1_amountIn_62 : decode cX1_amountIn 62 = .ok (.imul, 1) := by decide +kernel
theorem dX1_amountIn_63 : decode cX1_amountIn 63 = .ok (.goto 4, 3) := by decide +kernel
theorem dX1_amountIn_66 : decode cX1_amountIn 66 = .ok (.iconst 0, 1) := by decide +kernel
theorem dX1_amountIn_67 : decode cX1_amountIn 67 = .ok (.ireturn, 1) := by decide +kernel
theorem dX1_amountIn_68 : decode cX1_amountIn 68 = .ok (.iload_n 1, 1) := by decide +kernel
theorem dX1_amountIn_69 : decode cX1_amountIn 69 = .ok (.iconst 2, 1) := by decide +kernel
theorem dX1_amountIn_70 : decode cX1_amountIn 70 = .ok (.irem, 1) := by decide +kernel
theorem dX1_amountIn_71 : decode cX1_amountIn 71 = .ok (.ifCond .ne 13, 3) := by decide +kernel
theorem dX1_amountIn_74 : decode cX1_amountIn 74 = .ok (.aload_n 0, 1) := by decide +kernel
theorem dX1_amountIn_75 : decode cX1_amountIn 75 = .ok (.iload_n 1, 1) := by decide +kernel
theorem dX1_amountIn_76 : decode cX1_amountIn 76 = .ok (.invokevirtual 16, 3) := by decide +kernel
theorem dX1_amountIn_79 : decode cX1_amountIn 79 = .ok (.iconst 1, 1) := by decide +kernel
theorem dX1_amountIn_80 : decode cX1_amountIn 80 = .ok (.iadd, 1) := by decide +kernel
theorem dX1_amountIn_81 : decode cX1_amountIn 81 = .ok (.goto 8, 3) := by decide +kernel
theorem dX1_amountIn_84 : decode cX1_amountIn 84 = .ok (.aload_n 0, 1) := by decide +kernel
theorem dX1_amountIn_85 : decode cX1_amountIn 85 = .ok (.iload_n 1, 1) := by decide +kernel
theorem dX1_amountIn_86 : decode cX1_amountIn 86 = .ok (.invokevirtual 16, 3) := by decide +kernel
theorem dX1_amountIn_89 : decode cX1_amountIn 89 = .ok (.ireturn, 1) := by decide +kernel
theorem dX1_amountIn_90 : decode cX1_amountIn 90 = .ok (.aload_n 0, 1) := by decide +kernel
theorem dX1_amountIn_91 : decode cX1_amountIn 91 = .ok (.getfield 13, 3) := by decide +kernel
theorem dX1_amountIn_94 : decode cX1_amountIn 94 = .ok (.ireturn, 1) := by decide +kernel
theorem dX1_swinging_0 : decode cX1_swinging 0 = .ok (.iload_n 1, 1) := by decide +kernel
theorem dX1_swinging_1 : decode cX1_swinging 1 = .ok (.bipush 10, 2) := by decide +kernel
theorem dX1_swinging_3 : decode cX1_swinging 3 = .ok (.idiv, 1) := by decide +kernel
theorem dX1_swinging_4 : decode cX1_swinging 4 = .ok (.iconst 2, 1) := by decide +kernel
theorem dX1_swinging_5 : decode cX1_swinging 5 = .ok (.irem, 1) := by decide +kernel
theorem dX1_swinging_6 : decode cX1_swinging 6 = .ok (.ifCond .ne 10, 3) := by decide +kernel
theorem dX1_swinging_9 : decode cX1_swinging 9 = .ok (.aload_n 0, 1) := by decide +kernel
theorem dX1_swinging_10 : decode cX1_swinging 10 = .ok (.getfield 13, 3) := by decide +kernel
theorem dX1_swinging_13 : decode cX1_swinging 13 = .ok (.goto 8, 3) := by decide +kernel
theorem dX1_swinging_16 : decode cX1_swinging 16 = .ok (.aload_n 0, 1) := by decide +kernel
theorem dX1_swinging_17 : decode cX1_swinging 17 = .ok (.getfield 13, 3) := by decide +kernel
theorem dX1_swinging_20 : decode cX1_swinging 20 = .ok (.ineg, 1) := by decide +kernel
theorem dX1_swinging_21 : decode cX1_swinging 21 = .ok (.ireturn, 1) := by decide +kernel
theorem dX1_cooled_0 : decode cX1_cooled 0 = .ok (.aload_n 0, 1) := by decide +kernel
theorem dX1_cooled_1 : decode cX1_cooled 1 = .ok (.getfield 13, 3) := by decide +kernel
theorem dX1_cooled_4 : decode cX1_cooled 4 = .ok (.ifCond .le 22, 3) := by decide +kernel
theorem dX1_cooled_7 : decode cX1_cooled 7 = .ok (.aload_n 0, 1) := by decide +kernel
theorem dX1_cooled_8 : decode cX1_cooled 8 = .ok (.getfield 13, 3) := by decide +kernel
theorem dX1_cooled_11 : decode cX1_cooled 11 = .ok (.iload_n 1, 1) := by decide +kernel
theorem dX1_cooled_12 : decode cX1_cooled 12 = .ok (.if_icmp .le 12, 3) := by decide +kernel
theorem dX1_cooled_15 : decode cX1_cooled 15 = .ok (.aload_n 0, 1) := by decide +kernel
theorem dX1_cooled_16 : decode cX1_cooled 16 = .ok (.getfield 13, 3) := by decide +kernel
theorem dX1_cooled_19 : decode cX1_cooled 19 = .ok (.iload_n 1, 1) := by decide +kernel
theorem dX1_cooled_20 : decode cX1_cooled 20 = .ok (.isub, 1) := by decide +kernel
theorem dX1_cooled_21 : decode cX1_cooled 21 = .ok (.goto 4, 3) := by decide +kernel
theorem dX1_cooled_24 : decode cX1_cooled 24 = .ok (.iconst 0, 1) := by decide +kernel
theorem dX1_cooled_25 : decode cX1_cooled 25 = .ok (.ireturn, 1) := by decide +kernel
theorem dX1_cooled_26 : decode cX1_cooled 26 = .ok (.aload_n 0, 1) := by decide +kernel
theorem dX1_cooled_27 : decode cX1_cooled 27 = .ok (.getfield 13, 3) := by decide +kernel
theorem dX1_cooled_30 : decode cX1_cooled 30 = .ok (.iload_n 1, 1) := by decide +kernel
theorem dX1_cooled_31 : decode cX1_cooled 31 = .ok (.ineg, 1) := by decide +kernel
theorem dX1_cooled_32 : decode cX1_cooled 32 = .ok (.if_icmp .ge 12, 3) := by decide +kernel
theorem dX1_cooled_35 : decode cX1_cooled 35 = .ok (.aload_n 0, 1) := by decide +kernel
theorem dX1_cooled_36 : decode cX1_cooled 36 = .ok (.getfield 13, 3) := by decide +kernel
theorem dX1_cooled_39 : decode cX1_cooled 39 = .ok (.iload_n 1, 1) := by decide +kernel
theorem dX1_cooled_40 : decode cX1_cooled 40 = .ok (.iadd, 1) := by decide +kernel
theorem dX1_cooled_41 : decode cX1_cooled 41 = .ok (.goto 4, 3) := by decide +kernel
theorem dX1_cooled_44 : decode cX1_cooled 44 = .ok (.iconst 0, 1) := by decide +kernel
theorem dX1_cooled_45 : decode cX1_cooled 45 = .ok (.ireturn, 1) := by decide +kernel
theorem dX2_init_0 : decode cX2_init 0 = .ok (.aload_n 0, 1) := by decide +kernel
theorem dX2_init_1 : decode cX2_init 1 = .ok (.invokespecial 3, 3) := by decide +kernel
theorem dX2_init_4 : decode cX2_init 4 = .ok (.aload_n 0, 1) := by decide +kernel
theorem dX2_init_5 : decode cX2_init 5 = .ok (.bipush 6, 2) := by decide +kernel
theorem dX2_init_7 : decode cX2_init 7 = .ok (.putfield 9, 3) := by decide +kernel
theorem dX2_init_10 : decode cX2_init 10 = .ok (.aload_n 0, 1) := by decide +kernel
theorem dX2_init_11 : decode cX2_init 11 = .ok (.new 15, 3) := by decide +kernel
theorem dX2_init_14 : decode cX2_init 14 = .ok (.dup, 1) := by decide +kernel
theorem dX2_init_15 : decode cX2_init 15 = .ok (.invokespecial 17, 3) := by decide +kernel
theorem dX2_init_18 : decode cX2_init 18 = .ok (.putfield 18, 3) := by decide +kernel
theorem dX2_init_21 : decode cX2_init 21 = .ok (.aload_n 0, 1) := by decide +kernel
theorem dX2_init_22 : decode cX2_init 22 = .ok (.new 22, 3) := by decide +kernel
theorem dX2_init_25 : decode cX2_init 25 = .ok (.dup, 1) := by decide +kernel
theorem dX2_init_26 : decode cX2_init 26 = .ok (.invokespecial 24, 3) := by decide +kernel
theorem dX2_init_29 : decode cX2_init 29 = .ok (.putfield 25, 3) := by decide +kernel
theorem dX2_init_32 : decode cX2_init 32 = .ok (.aload_n 0, 1) := by decide +kernel
theorem dX2_init_33 : decode cX2_init 33 = .ok (.iconst 5, 1) := by decide +kernel
theorem dX2_init_34 : decode cX2_init 34 = .ok (.anewarray 29, 3) := by decide +kernel
theorem dX2_init_37 : decode cX2_init 37 = .ok (.putfield 31, 3) := by decide +kernel
theorem dX2_init_40 : decode cX2_init 40 = .ok (.iconst 0, 1) := by decide +kernel
theorem dX2_init_41 : decode cX2_init 41 = .ok (.istore_n 1, 1) := by decide +kernel
theorem dX2_init_42 : decode cX2_init 42 = .ok (.iload_n 1, 1) := by decide +kernel
theorem dX2_init_43 : decode cX2_init 43 = .ok (.iconst 5, 1) := by decide +kernel
theorem dX2_init_44 : decode cX2_init 44 = .ok (.if_icmp .ge 22, 3) := by decide +kernel
theorem dX2_init_47 : decode cX2_init 47 = .ok (.aload_n 0, 1) := by decide +kernel
theorem dX2_init_48 : decode cX2_init 48 = .ok (.getfield 31, 3) := by decide +kernel
theorem dX2_init_51 : decode cX2_init 51 = .ok (.iload_n 1, 1) := by decide +kernel
theorem dX2_init_52 : decode cX2_init 52 = .ok (.new 29, 3) := by decide +kernel
theorem dX2_init_55 : decode cX2_init 55 = .ok (.dup, 1) := by decide +kernel
theorem dX2_init_56 : decode cX2_init 56 = .ok (.invokespecial 35, 3) := by decide +kernel
theorem dX2_init_59 : decode cX2_init 59 = .ok (.aastore, 1) := by decide +kernel
theorem dX2_init_60 : decode cX2_init 60 = .ok (.iinc 1 1, 3) := by decide +kernel
theorem dX2_init_63 : decode cX2_init 63 = .ok (.goto (-21), 3) := by decide +kernel
theorem dX2_init_66 : decode cX2_init 66 = .ok (.return_, 1) := by decide +kernel
theorem dX2_become_0 : decode cX2_become 0 = .ok (.aload_n 0, 1) := by decide +kernel
theorem dX2_become_1 : decode cX2_become 1 = .ok (.aload_n 1, 1) := by decide +kernel
theorem dX2_become_2 : decode cX2_become 2 = .ok (.getfield 36, 3) := by decide +kernel
theorem dX2_become_5 : decode cX2_become 5 = .ok (.putfield 36, 3) := by decide +kernel
theorem dX2_become_8 : decode cX2_become 8 = .ok (.aload_n 0, 1) := by decide +kernel
theorem dX2_become_9 : decode cX2_become 9 = .ok (.aload_n 1, 1) := by decide +kernel
theorem dX2_become_10 : decode cX2_become 10 = .ok (.getfield 39, 3) := by decide +kernel
theorem dX2_become_13 : decode cX2_become 13 = .ok (.putfield 39, 3) := by decide +kernel
theorem dX2_become_16 : decode cX2_become 16 = .ok (.aload_n 0, 1) := by decide +kernel
theorem dX2_become_17 : decode cX2_become 17 = .ok (.aload_n 1, 1) := by decide +kernel
theorem dX2_become_18 : decode cX2_become 18 = .ok (.getfield 9, 3) := by decide +kernel
theorem dX2_become_21 : decode cX2_become 21 = .ok (.putfield 9, 3) := by decide +kernel
theorem dX2_become_24 : decode cX2_become 24 = .ok (.aload_n 0, 1) := by decide +kernel
theorem dX2_become_25 : decode cX2_become 25 = .ok (.getfield 18, 3) := by decide +kernel
theorem dX2_become_28 : decode cX2_become 28 = .ok (.aload_n 1, 1) := by decide +kernel
theorem dX2_become_29 : decode cX2_become 29 = .ok (.getfield 18, 3) := by decide +kernel
theorem dX2_become_32 : decode cX2_become 32 = .ok (.invokevirtual 42, 3) := by decide +kernel
theorem dX2_become_35 : decode cX2_become 35 = .ok (.aload_n 0, 1) := by decide +kernel
theorem dX2_become_36 : decode cX2_become 36 = .ok (.getfield 25, 3) := by decide +kernel
theorem dX2_become_39 : decode cX2_become 39 = .ok (.aload_n 1, 1) := by decide +kernel
theorem dX2_become_40 : decode cX2_become 40 = .ok (.getfield 25, 3) := by decide +kernel
theorem dX2_become_43 : decode cX2_become 43 = .ok (.invokevirtual 46, 3) := by decide +kernel
theorem dX2_become_46 : decode cX2_become 46 = .ok (.aload_n 0, 1) := by decide +kernel
theorem dX2_become_47 : decode cX2_become 47 = .ok (.aload_n 1, 1) := by decide +kernel
theorem dX2_become_48 : decode cX2_become 48 = .ok (.getfield 49, 3) := by decide +kernel
theorem dX2_become_51 : decode cX2_become 51 = .ok (.putfield 49, 3) := by decide +kernel
theorem dX2_become_54 : decode cX2_become 54 = .ok (.iconst 0, 1) := by decide +kernel
theorem dX2_become_55 : decode cX2_become 55 = .ok (.istore_n 2, 1) := by decide +kernel
theorem dX2_become_56 : decode cX2_become 56 = .ok (.iload_n 2, 1) := by decide +kernel
theorem dX2_become_57 : decode cX2_become 57 = .ok (.iconst 5, 1) := by decide +kernel
theorem dX2_become_58 : decode cX2_become 58 = .ok (.if_icmp .ge 24, 3) := by decide +kernel
theorem dX2_become_61 : decode cX2_become 61 = .ok (.aload_n 0, 1) := by decide +kernel
theorem dX2_become_62 : decode cX2_become 62 = .ok (.getfield 31, 3) := by decide +kernel
theorem dX2_become_65 : decode cX2_become 65 = .ok (.iload_n 2, 1) := by decide +kernel
theorem dX2_become_66 : decode cX2_become 66 = .ok (.aaload, 1) := by decide +kernel
theorem dX2_become_67 : decode cX2_become 67 = .ok (.aload_n 1, 1) := by decide +kernel
theorem dX2_become_68 : decode cX2_become 68 = .ok (.getfield 31, 3) := by decide +kernel
theorem dX2_become_71 : decode cX2_become 71 = .ok (.iload_n 2, 1) := by decide +kernel
theorem dX2_become_72 : decode cX2_become 72 = .ok (.aaload, 1) := by decide +kernel
theorem dX2_become_73 : decode cX2_become 73 = .ok (.invokevirtual 52, 3) := by decide +kernel
theorem dX2_become_76 : decode cX2_become 76 = .ok (.iinc 2 1, 3) := by decide +kernel
theorem dX2_become_79 : decode cX2_become 79 = .ok (.goto (-23), 3) := by decide +kernel
theorem dX2_become_82 : decode cX2_become 82 = .ok (.aload_n 0, 1) := by decide +kernel
theorem dX2_become_83 : decode cX2_become 83 = .ok (.aload_n 1, 1) := by decide +kernel
theorem dX2_become_84 : decode cX2_become 84 = .ok (.getfield 55, 3) := by decide +kernel
theorem dX2_become_87 : decode cX2_become 87 = .ok (.putfield 55, 3) := by decide +kernel
theorem dX2_become_90 : decode cX2_become 90 = .ok (.aload_n 0, 1) := by decide +kernel
theorem dX2_become_91 : decode cX2_become 91 = .ok (.aload_n 1, 1) := by decide +kernel
theorem dX2_become_92 : decode cX2_become 92 = .ok (.getfield 58, 3) := by decide +kernel
theorem dX2_become_95 : decode cX2_become 95 = .ok (.putfield 58, 3) := by decide +kernel
theorem dX2_become_98 : decode cX2_become 98 = .ok (.return_, 1) := by decide +kernel
theorem dX2_has_0 : decode cX2_has 0 = .ok (.iload_n 1, 1) := by decide +kernel
theorem dX2_has_1 : decode cX2_has 1 = .ok (.ifCond .lt 20, 3) := by decide +kernel
theorem dX2_has_4 : decode cX2_has 4 = .ok (.iload_n 1, 1) := by decide +kernel
theorem dX2_has_5 : decode cX2_has 5 = .ok (.aload_n 0, 1) := by decide +kernel
theorem dX2_has_6 : decode cX2_has 6 = .ok (.getfield 49, 3) := by decide +kernel
theorem dX2_has_9 : decode cX2_has 9 = .ok (.if_icmp .ge 12, 3) := by decide +kernel
theorem dX2_has_12 : decode cX2_has 12 = .ok (.iload_n 1, 1) := by decide +kernel
theorem dX2_has_13 : decode cX2_has 13 = .ok (.iconst 5, 1) := by decide +kernel
theorem dX2_has_14 : decode cX2_has 14 = .ok (.if_icmp .ge 7, 3) := by decide +kernel
theorem dX2_has_17 : decode cX2_has 17 = .ok (.iconst 1, 1) := by decide +kernel
theorem dX2_has_18 : decode cX2_has 18 = .ok (.goto 4, 3) := by decide +kernel
theorem dX2_has_21 : decode cX2_has 21 = .ok (.iconst 0, 1) := by decide +kernel
theorem dX2_has_22 : decode cX2_has 22 = .ok (.ireturn, 1) := by decide +kernel
theorem dX2_told_0 : decode cX2_told 0 = .ok (.iload_n 1, 1) := by decide +kernel
theorem dX2_told_1 : decode cX2_told 1 = .ok (.tableswitch 102 0 7 #[47, 52, 57, 62, 70, 78, 86, 94], 47) := by decide +kernel
theorem dX2_told_48 : decode cX2_told 48 = .ok (.aload_n 0, 1) := by decide +kernel
theorem dX2_told_49 : decode cX2_told 49 = .ok (.getfield 36, 3) := by decide +kernel
theorem dX2_told_52 : decode cX2_told 52 = .ok (.ireturn, 1) := by decide +kernel
theorem dX2_told_53 : decode cX2_told 53 = .ok (.aload_n 0, 1) := by decide +kernel
theorem dX2_told_54 : decode cX2_told 54 = .ok (.getfield 39, 3) := by decide +kernel
theorem dX2_told_57 : decode cX2_told 57 = .ok (.ireturn, 1) := by decide +kernel
theorem dX2_told_58 : decode cX2_told 58 = .ok (.aload_n 0, 1) := by decide +kernel
theorem dX2_told_59 : decode cX2_told 59 = .ok (.getfield 9, 3) := by decide +kernel
theorem dX2_told_62 : decode cX2_told 62 = .ok (.ireturn, 1) := by decide +kernel
theorem dX2_told_63 : decode cX2_told 63 = .ok (.aload_n 0, 1) := by decide +kernel
theorem dX2_told_64 : decode cX2_told 64 = .ok (.getfield 18, 3) := by decide +kernel
theorem dX2_told_67 : decode cX2_told 67 = .ok (.getfield 61, 3) := by decide +kernel
theorem dX2_told_70 : decode cX2_told 70 = .ok (.ireturn, 1) := by decide +kernel
theorem dX2_told_71 : decode cX2_told 71 = .ok (.aload_n 0, 1) := by decide +kernel
theorem dX2_told_72 : decode cX2_told 72 = .ok (.getfield 25, 3) := by decide +kernel
theorem dX2_told_75 : decode cX2_told 75 = .ok (.getfield 64, 3) := by decide +kernel
theorem dX2_told_78 : decode cX2_told 78 = .ok (.ireturn, 1) := by decide +kernel
theorem dX2_told_79 : decode cX2_told 79 = .ok (.aload_n 0, 1) := by decide +kernel
theorem dX2_told_80 : decode cX2_told 80 = .ok (.getfield 25, 3) := by decide +kernel
theorem dX2_told_83 : decode cX2_told 83 = .ok (.getfield 67, 3) := by decide +kernel
theorem dX2_told_86 : decode cX2_told 86 = .ok (.ireturn, 1) := by decide +kernel
theorem dX2_told_87 : decode cX2_told 87 = .ok (.aload_n 0, 1) := by decide +kernel
theorem dX2_told_88 : decode cX2_told 88 = .ok (.getfield 18, 3) := by decide +kernel
theorem dX2_told_91 : decode cX2_told 91 = .ok (.getfield 70, 3) := by decide +kernel
theorem dX2_told_94 : decode cX2_told 94 = .ok (.ireturn, 1) := by decide +kernel
theorem dX2_told_95 : decode cX2_told 95 = .ok (.aload_n 0, 1) := by decide +kernel
theorem dX2_told_96 : decode cX2_told 96 = .ok (.getfield 25, 3) := by decide +kernel
theorem dX2_told_99 : decode cX2_told 99 = .ok (.getfield 73, 3) := by decide +kernel
theorem dX2_told_102 : decode cX2_told 102 = .ok (.ireturn, 1) := by decide +kernel
theorem dX2_told_103 : decode cX2_told 103 = .ok (.aload_n 0, 1) := by decide +kernel
theorem dX2_told_104 : decode cX2_told 104 = .ok (.getfield 55, 3) := by decide +kernel
theorem dX2_told_107 : decode cX2_told 107 = .ok (.ireturn, 1) := by decide +kernel
theorem dX2_change_0 : decode cX2_change 0 = .ok (.aload_n 0, 1) := by decide +kernel
theorem dX2_change_1 : decode cX2_change 1 = .ok (.iload_n 1, 1) := by decide +kernel
theorem dX2_change_2 : decode cX2_change 2 = .ok (.invokevirtual 74, 3) := by decide +kernel
theorem dX2_change_5 : decode cX2_change 5 = .ok (.istore_n 3, 1) := by decide +kernel
theorem dX2_change_6 : decode cX2_change 6 = .ok (.iload_n 1, 1) := by decide +kernel
theorem dX2_change_7 : decode cX2_change 7 = .ok (.tableswitch 124 0 7 #[45, 53, 61, 69, 80, 91, 102, 113], 45) := by decide +kernel
theorem dX2_change_52 : decode cX2_change 52 = .ok (.aload_n 0, 1) := by decide +kernel
theorem dX2_change_53 : decode cX2_change 53 = .ok (.iload_n 2, 1) := by decide +kernel
theorem dX2_change_54 : decode cX2_change 54 = .ok (.putfield 36, 3) := by decide +kernel
theorem dX2_change_57 : decode cX2_change 57 = .ok (.goto 79, 3) := by decide +kernel
theorem dX2_change_60 : decode cX2_change 60 = .ok (.aload_n 0, 1) := by decide +kernel
theorem dX2_change_61 : decode cX2_change 61 = .ok (.iload_n 2, 1) := by decide +kernel
theorem dX2_change_62 : decode cX2_change 62 = .ok (.putfield 39, 3) := by decide +kernel
theorem dX2_change_65 : decode cX2_change 65 = .ok (.goto 71, 3) := by decide +kernel
theorem dX2_change_68 : decode cX2_change 68 = .ok (.aload_n 0, 1) := by decide +kernel
theorem dX2_change_69 : decode cX2_change 69 = .ok (.iload_n 2, 1) := by decide +kernel
theorem dX2_change_70 : decode cX2_change 70 = .ok (.putfield 9, 3) := by decide +kernel
theorem dX2_change_73 : decode cX2_change 73 = .ok (.goto 63, 3) := by decide +kernel
theorem dX2_change_76 : decode cX2_change 76 = .ok (.aload_n 0, 1) := by decide +kernel
theorem dX2_change_77 : decode cX2_change 77 = .ok (.getfield 18, 3) := by decide +kernel
theorem dX2_change_80 : decode cX2_change 80 = .ok (.iload_n 2, 1) := by decide +kernel
theorem dX2_change_81 : decode cX2_change 81 = .ok (.putfield 61, 3) := by decide +kernel
theorem dX2_change_84 : decode cX2_change 84 = .ok (.goto 52, 3) := by decide +kernel
theorem dX2_change_87 : decode cX2_change 87 = .ok (.aload_n 0, 1) := by decide +kernel
theorem dX2_change_88 : decode cX2_change 88 = .ok (.getfield 25, 3) := by decide +kernel
theorem dX2_change_91 : decode cX2_change 91 = .ok (.iload_n 2, 1) := by decide +kernel
theorem dX2_change_92 : decode cX2_change 92 = .ok (.putfield 64, 3) := by decide +kernel
theorem dX2_change_95 : decode cX2_change 95 = .ok (.goto 41, 3) := by decide +kernel
theorem dX2_change_98 : decode cX2_change 98 = .ok (.aload_n 0, 1) := by decide +kernel
theorem dX2_change_99 : decode cX2_change 99 = .ok (.getfield 25, 3) := by decide +kernel
theorem dX2_change_102 : decode cX2_change 102 = .ok (.iload_n 2, 1) := by decide +kernel
theorem dX2_change_103 : decode cX2_change 103 = .ok (.putfield 67, 3) := by decide +kernel
theorem dX2_change_106 : decode cX2_change 106 = .ok (.goto 30, 3) := by decide +kernel
theorem dX2_change_109 : decode cX2_change 109 = .ok (.aload_n 0, 1) := by decide +kernel
theorem dX2_change_110 : decode cX2_change 110 = .ok (.getfield 18, 3) := by decide +kernel
theorem dX2_change_113 : decode cX2_change 113 = .ok (.iload_n 2, 1) := by decide +kernel
theorem dX2_change_114 : decode cX2_change 114 = .ok (.putfield 70, 3) := by decide +kernel
theorem dX2_change_117 : decode cX2_change 117 = .ok (.goto 19, 3) := by decide +kernel
theorem dX2_change_120 : decode cX2_change 120 = .ok (.aload_n 0, 1) := by decide +kernel
theorem dX2_change_121 : decode cX2_change 121 = .ok (.getfield 25, 3) := by decide +kernel
theorem dX2_change_124 : decode cX2_change 124 = .ok (.iload_n 2, 1) := by decide +kernel
theorem dX2_change_125 : decode cX2_change 125 = .ok (.putfield 73, 3) := by decide +kernel
theorem dX2_change_128 : decode cX2_change 128 = .ok (.goto 8, 3) := by decide +kernel
theorem dX2_change_131 : decode cX2_change 131 = .ok (.aload_n 0, 1) := by decide +kernel
theorem dX2_change_132 : decode cX2_change 132 = .ok (.iload_n 2, 1) := by decide +kernel
theorem dX2_change_133 : decode cX2_change 133 = .ok (.putfield 55, 3) := by decide +kernel
theorem dX2_change_136 : decode cX2_change 136 = .ok (.iload_n 3, 1) := by decide +kernel
theorem dX2_change_137 : decode cX2_change 137 = .ok (.ireturn, 1) := by decide +kernel
theorem dX2_allMinds_0 : decode cX2_allMinds 0 = .ok (.iconst 0, 1) := by decide +kernel
theorem dX2_allMinds_1 : decode cX2_allMinds 1 = .ok (.istore_n 1, 1) := by decide +kernel
theorem dX2_allMinds_2 : decode cX2_allMinds 2 = .ok (.iconst 0, 1) := by decide +kernel
theorem dX2_allMinds_3 : decode cX2_allMinds 3 = .ok (.istore_n 2, 1) := by decide +kernel
theorem dX2_allMinds_4 : decode cX2_allMinds 4 = .ok (.iload_n 2, 1) := by decide +kernel
theorem dX2_allMinds_5 : decode cX2_allMinds 5 = .ok (.aload_n 0, 1) := by decide +kernel
theorem dX2_allMinds_6 : decode cX2_allMinds 6 = .ok (.getfield 49, 3) := by decide +kernel
theorem dX2_allMinds_9 : decode cX2_allMinds 9 = .ok (.if_icmp .ge 26, 3) := by decide +kernel
theorem dX2_allMinds_12 : decode cX2_allMinds 12 = .ok (.iload_n 2, 1) := by decide +kernel
theorem dX2_allMinds_13 : decode cX2_allMinds 13 = .ok (.iconst 5, 1) := by decide +kernel
theorem dX2_allMinds_14 : decode cX2_allMinds 14 = .ok (.if_icmp .ge 21, 3) := by decide +kernel
theorem dX2_allMinds_17 : decode cX2_allMinds 17 = .ok (.iload_n 1, 1) := by decide +kernel
theorem dX2_allMinds_18 : decode cX2_allMinds 18 = .ok (.aload_n 0, 1) := by decide +kernel
theorem dX2_allMinds_19 : decode cX2_allMinds 19 = .ok (.getfield 31, 3) := by decide +kernel
theorem dX2_allMinds_22 : decode cX2_allMinds 22 = .ok (.iload_n 2, 1) := by decide +kernel
theorem dX2_allMinds_23 : decode cX2_allMinds 23 = .ok (.aaload, 1) := by decide +kernel
theorem dX2_allMinds_24 : decode cX2_allMinds 24 = .ok (.getfield 78, 3) := by decide +kernel
theorem dX2_allMinds_27 : decode cX2_allMinds 27 = .ok (.iadd, 1) := by decide +kernel
theorem dX2_allMinds_28 : decode cX2_allMinds 28 = .ok (.istore_n 1, 1) := by decide +kernel
theorem dX2_allMinds_29 : decode cX2_allMinds 29 = .ok (.iinc 2 1, 3) := by decide +kernel
theorem dX2_allMinds_32 : decode cX2_allMinds 32 = .ok (.goto (-28), 3) := by decide +kernel
theorem dX2_allMinds_35 : decode cX2_allMinds 35 = .ok (.iload_n 1, 1) := by decide +kernel
theorem dX2_allMinds_36 : decode cX2_allMinds 36 = .ok (.ireturn, 1) := by decide +kernel
theorem dX2_refineHands_0 : decode cX2_refineHands 0 = .ok (.iconst 0, 1) := by decide +kernel
theorem dX2_refineHands_1 : decode cX2_refineHands 1 = .ok (.istore_n 3, 1) := by decide +kernel
theorem dX2_refineHands_2 : decode cX2_refineHands 2 = .ok (.iload_n 3, 1) := by decide +kernel
theorem dX2_refineHands_3 : decode cX2_refineHands 3 = .ok (.aload_n 0, 1) := by decide +kernel
theorem dX2_refineHands_4 : decode cX2_refineHands 4 = .ok (.getfield 49, 3) := by decide +kernel
theorem dX2_refineHands_7 : decode cX2_refineHands 7 = .ok (.if_icmp .ge 34, 3) := by decide +kernel
theorem dX2_refineHands_10 : decode cX2_refineHands 10 = .ok (.iload_n 3, 1) := by decide +kernel
theorem dX2_refineHands_11 : decode cX2_refineHands 11 = .ok (.iconst 5, 1) := by decide +kernel
theorem dX2_refineHands_12 : decode cX2_refineHands 12 = .ok (.if_icmp .ge 29, 3) := by decide +kernel
theorem dX2_refineHands_15 : decode cX2_refineHands 15 = .ok (.iload_n 3, 1) := by decide +kernel
theorem dX2_refineHands_16 : decode cX2_refineHands 16 = .ok (.iload_n 1, 1) := by decide +kernel
theorem dX2_refineHands_17 : decode cX2_refineHands 17 = .ok (.if_icmp .lt 18, 3) := by decide +kernel
theorem dX2_refineHands_20 : decode cX2_refineHands 20 = .ok (.iload_n 3, 1) := by decide +kernel
theorem dX2_refineHands_21 : decode cX2_refineHands 21 = .ok (.iload_n 2, 1) := by decide +kernel
theorem dX2_refineHands_22 : decode cX2_refineHands 22 = .ok (.if_icmp .gt 13, 3) := by decide +kernel
theorem dX2_refineHands_25 : decode cX2_refineHands 25 = .ok (.aload_n 0, 1) := by decide +kernel
theorem dX2_refineHands_26 : decode cX2_refineHands 26 = .ok (.getfield 31, 3) := by decide +kernel
theorem dX2_refineHands_29 : decode cX2_refineHands 29 = .ok (.iload_n 3, 1) := by decide +kernel
theorem dX2_refineHands_30 : decode cX2_refineHands 30 = .ok (.aaload, 1) := by decide +kernel
theorem dX2_refineHands_31 : decode cX2_refineHands 31 = .ok (.iconst 1, 1) := by decide +kernel
theorem dX2_refineHands_32 : decode cX2_refineHands 32 = .ok (.putfield 81, 3) := by decide +kernel
theorem dX2_refineHands_35 : decode cX2_refineHands 35 = .ok (.iinc 3 1, 3) := by decide +kernel
theorem dX2_refineHands_38 : decode cX2_refineHands 38 = .ok (.goto (-36), 3) := by decide +kernel
theorem dX2_refineHands_41 : decode cX2_refineHands 41 = .ok (.return_, 1) := by decide +kernel
theorem dX2_passMinutes_0 : decode cX2_passMinutes 0 = .ok (.iconst 0, 1) := by decide +kernel
theorem dX2_passMinutes_1 : decode cX2_passMinutes 1 = .ok (.istore 4, 2) := by decide +kernel
theorem dX2_passMinutes_3 : decode cX2_passMinutes 3 = .ok (.iload 4, 2) := by decide +kernel
theorem dX2_passMinutes_5 : decode cX2_passMinutes 5 = .ok (.iload_n 1, 1) := by decide +kernel
theorem dX2_passMinutes_6 : decode cX2_passMinutes 6 = .ok (.if_icmp .ge 41, 3) := by decide +kernel
theorem dX2_passMinutes_9 : decode cX2_passMinutes 9 = .ok (.aload_n 0, 1) := by decide +kernel
theorem dX2_passMinutes_10 : decode cX2_passMinutes 10 = .ok (.invokevirtual 84, 3) := by decide +kernel
theorem dX2_passMinutes_13 : decode cX2_passMinutes 13 = .ok (.istore 5, 2) := by decide +kernel
theorem dX2_passMinutes_15 : decode cX2_passMinutes 15 = .ok (.iload_n 2, 1) := by decide +kernel
theorem dX2_passMinutes_16 : decode cX2_passMinutes 16 = .ok (.ifCond .eq 10, 3) := by decide +kernel
theorem dX2_passMinutes_19 : decode cX2_passMinutes 19 = .ok (.aload_n 0, 1) := by decide +kernel
theorem dX2_passMinutes_20 : decode cX2_passMinutes 20 = .ok (.iload 5, 2) := by decide +kernel
theorem dX2_passMinutes_22 : decode cX2_passMinutes 22 = .ok (.aload_n 3, 1) := by decide +kernel
theorem dX2_passMinutes_23 : decode cX2_passMinutes 23 = .ok (.invokevirtual 88, 3) := by decide +kernel
theorem dX2_passMinutes_26 : decode cX2_passMinutes 26 = .ok (.aload_n 0, 1) := by decide +kernel
theorem dX2_passMinutes_27 : decode cX2_passMinutes 27 = .ok (.aload_n 3, 1) := by decide +kernel
theorem dX2_passMinutes_28 : decode cX2_passMinutes 28 = .ok (.invokevirtual 92, 3) := by decide +kernel
theorem dX2_passMinutes_31 : decode cX2_passMinutes 31 = .ok (.aload_n 0, 1) := by decide +kernel
theorem dX2_passMinutes_32 : decode cX2_passMinutes 32 = .ok (.dup, 1) := by decide +kernel
theorem dX2_passMinutes_33 : decode cX2_passMinutes 33 = .ok (.getfield 58, 3) := by decide +kernel
theorem dX2_passMinutes_36 : decode cX2_passMinutes 36 = .ok (.iconst 1, 1) := by decide +kernel
theorem dX2_passMinutes_37 : decode cX2_passMinutes 37 = .ok (.iadd, 1) := by decide +kernel
theorem dX2_passMinutes_38 : decode cX2_passMinutes 38 = .ok (.putfield 58, 3) := by decide +kernel
theorem dX2_passMinutes_41 : decode cX2_passMinutes 41 = .ok (.iinc 4 1, 3) := by decide +kernel
theorem dX2_passMinutes_44 : decode cX2_passMinutes 44 = .ok (.goto (-41), 3) := by decide +kernel
theorem dX2_passMinutes_47 : decode cX2_passMinutes 47 = .ok (.return_, 1) := by decide +kernel
theorem dX2_driftOnce_0 : decode cX2_driftOnce 0 = .ok (.aload_n 0, 1) := by decide +kernel
theorem dX2_driftOnce_1 : decode cX2_driftOnce 1 = .ok (.getfield 18, 3) := by decide +kernel
theorem dX2_driftOnce_4 : decode cX2_driftOnce 4 = .ok (.aload_n 0, 1) := by decide +kernel
theorem dX2_driftOnce_5 : decode cX2_driftOnce 5 = .ok (.getfield 58, 3) := by decide +kernel
theorem dX2_driftOnce_8 : decode cX2_driftOnce 8 = .ok (.invokevirtual 96, 3) := by decide +kernel
theorem dX2_driftOnce_11 : decode cX2_driftOnce 11 = .ok (.istore_n 1, 1) := by decide +kernel
theorem dX2_driftOnce_12 : decode cX2_driftOnce 12 = .ok (.aload_n 0, 1) := by decide +kernel
theorem dX2_driftOnce_13 : decode cX2_driftOnce 13 = .ok (.aload_n 0, 1) := by decide +kernel
theorem dX2_driftOnce_14 : decode cX2_driftOnce 14 = .ok (.getfield 36, 3) := by decide +kernel
theorem dX2_driftOnce_17 : decode cX2_driftOnce 17 = .ok (.iload_n 1, 1) := by decide +kernel
theorem dX2_driftOnce_18 : decode cX2_driftOnce 18 = .ok (.iadd, 1) := by decide +kernel
theorem dX2_driftOnce_19 : decode cX2_driftOnce 19 = .ok (.bipush (-99), 2) := by decide +kernel
theorem dX2_driftOnce_21 : decode cX2_driftOnce 21 = .ok (.bipush 99, 2) := by decide +kernel
theorem dX2_driftOnce_23 : decode cX2_driftOnce 23 = .ok (.invokestatic 99, 3) := by decide +kernel
theorem dX2_driftOnce_26 : decode cX2_driftOnce 26 = .ok (.putfield 36, 3) := by decide +kernel
theorem dX2_driftOnce_29 : decode cX2_driftOnce 29 = .ok (.iload_n 1, 1) := by decide +kernel
theorem dX2_driftOnce_30 : decode cX2_driftOnce 30 = .ok (.ireturn, 1) := by decide +kernel
theorem dX2_isOffEither_0 : decode cX2_isOffEither 0 = .ok (.aload_n 0, 1) := by decide +kernel
theorem dX2_isOffEither_1 : decode cX2_isOffEither 1 = .ok (.iconst 0, 1) := by decide +kernel
theorem dX2_isOffEither_2 : decode cX2_isOffEither 2 = .ok (.invokevirtual 103, 3) := by decide +kernel
theorem dX2_isOffEither_5 : decode cX2_isOffEither 5 = .ok (.aload_n 0, 1) := by decide +kernel
theorem dX2_isOffEither_6 : decode cX2_isOffEither 6 = .ok (.getfield 25, 3) := by decide +kernel
theorem dX2_isOffEither_9 : decode cX2_isOffEither 9 = .ok (.getfield 64, 3) := by decide +kernel
theorem dX2_isOffEither_12 : decode cX2_isOffEither 12 = .ok (.if_icmp .gt 18, 3) := by decide +kernel
theorem dX2_isOffEither_15 : decode cX2_isOffEither 15 = .ok (.aload_n 0, 1) := by decide +kernel
theorem dX2_isOffEither_16 : decode cX2_isOffEither 16 = .ok (.iconst 1, 1) := by decide +kernel
theorem dX2_isOffEither_17 : decode cX2_isOffEither 17 = .ok (.invokevirtual 103, 3) := by decide +kernel
theorem dX2_isOffEither_20 : decode cX2_isOffEither 20 = .ok (.aload_n 0, 1) := by decide +kernel
theorem dX2_isOffEither_21 : decode cX2_isOffEither 21 = .ok (.getfield 25, 3) := by decide +kernel
theorem dX2_isOffEither_24 : decode cX2_isOffEither 24 = .ok (.getfield 64, 3) := by decide +kernel
theorem dX2_isOffEither_27 : decode cX2_isOffEither 27 = .ok (.if_icmp .le 7, 3) := by decide +kernel
theorem dX2_isOffEither_30 : decode cX2_isOffEither 30 = .ok (.iconst 1, 1) := by decide +kernel
theorem dX2_isOffEither_31 : decode cX2_isOffEither 31 = .ok (.goto 4, 3) := by decide +kernel
theorem dX2_isOffEither_34 : decode cX2_isOffEither 34 = .ok (.iconst 0, 1) := by decide +kernel
theorem dX2_isOffEither_35 : decode cX2_isOffEither 35 = .ok (.ireturn, 1) := by decide +kernel
theorem dX2_letOneGetUp_0 : decode cX2_letOneGetUp 0 = .ok (.aload_n 0, 1) := by decide +kernel
theorem dX2_letOneGetUp_1 : decode cX2_letOneGetUp 1 = .ok (.aload_n 0, 1) := by decide +kernel
theorem dX2_letOneGetUp_2 : decode cX2_letOneGetUp 2 = .ok (.getfield 55, 3) := by decide +kernel
theorem dX2_letOneGetUp_5 : decode cX2_letOneGetUp 5 = .ok (.invokevirtual 106, 3) := by decide +kernel
theorem dX2_letOneGetUp_8 : decode cX2_letOneGetUp 8 = .ok (.ifCond .ne 4, 3) := by decide +kernel
theorem dX2_letOneGetUp_11 : decode cX2_letOneGetUp 11 = .ok (.return_, 1) := by decide +kernel
theorem dX2_letOneGetUp_12 : decode cX2_letOneGetUp 12 = .ok (.aload_n 0, 1) := by decide +kernel
theorem dX2_letOneGetUp_13 : decode cX2_letOneGetUp 13 = .ok (.getfield 31, 3) := by decide +kernel
theorem dX2_letOneGetUp_16 : decode cX2_letOneGetUp 16 = .ok (.aload_n 0, 1) := by decide +kernel
theorem dX2_letOneGetUp_17 : decode cX2_letOneGetUp 17 = .ok (.getfield 55, 3) := by decide +kernel
theorem dX2_letOneGetUp_20 : decode cX2_letOneGetUp 20 = .ok (.aaload, 1) := by decide +kernel
theorem dX2_letOneGetUp_21 : decode cX2_letOneGetUp 21 = .ok (.astore_n 3, 1) := by decide +kernel
theorem dX2_letOneGetUp_22 : decode cX2_letOneGetUp 22 = .ok (.aload_n 0, 1) := by decide +kernel
theorem dX2_letOneGetUp_23 : decode cX2_letOneGetUp 23 = .ok (.getfield 25, 3) := by decide +kernel
theorem dX2_letOneGetUp_26 : decode cX2_letOneGetUp 26 = .ok (.aload_n 0, 1) := by decide +kernel
theorem dX2_letOneGetUp_27 : decode cX2_letOneGetUp 27 = .ok (.aload_n 3, 1) := by decide +kernel
theorem dX2_letOneGetUp_28 : decode cX2_letOneGetUp 28 = .ok (.getfield 110, 3) := by decide +kernel
theorem dX2_letOneGetUp_31 : decode cX2_letOneGetUp 31 = .ok (.invokevirtual 103, 3) := by decide +kernel
theorem dX2_letOneGetUp_34 : decode cX2_letOneGetUp 34 = .ok (.aload_n 0, 1) := by decide +kernel
theorem dX2_letOneGetUp_35 : decode cX2_letOneGetUp 35 = .ok (.getfield 58, 3) := by decide +kernel
theorem dX2_letOneGetUp_38 : decode cX2_letOneGetUp 38 = .ok (.invokevirtual 113, 3) := by decide +kernel
theorem dX2_letOneGetUp_41 : decode cX2_letOneGetUp 41 = .ok (.ifCond .ne 4, 3) := by decide +kernel
theorem dX2_letOneGetUp_44 : decode cX2_letOneGetUp 44 = .ok (.return_, 1) := by decide +kernel
theorem dX2_letOneGetUp_45 : decode cX2_letOneGetUp 45 = .ok (.aload_n 3, 1) := by decide +kernel
theorem dX2_letOneGetUp_46 : decode cX2_letOneGetUp 46 = .ok (.getfield 110, 3) := by decide +kernel
theorem dX2_letOneGetUp_49 : decode cX2_letOneGetUp 49 = .ok (.ifCond .ne 10, 3) := by decide +kernel
theorem dX2_letOneGetUp_52 : decode cX2_letOneGetUp 52 = .ok (.aload_n 0, 1) := by decide +kernel
theorem dX2_letOneGetUp_53 : decode cX2_letOneGetUp 53 = .ok (.getfield 39, 3) := by decide +kernel
theorem dX2_letOneGetUp_56 : decode cX2_letOneGetUp 56 = .ok (.goto 7, 3) := by decide +kernel
theorem dX2_letOneGetUp_59 : decode cX2_letOneGetUp 59 = .ok (.aload_n 0, 1) := by decide +kernel
theorem dX2_letOneGetUp_60 : decode cX2_letOneGetUp 60 = .ok (.getfield 9, 3) := by decide +kernel
theorem dX2_letOneGetUp_63 : decode cX2_letOneGetUp 63 = .ok (.istore 4, 2) := by decide +kernel
theorem dX2_letOneGetUp_65 : decode cX2_letOneGetUp 65 = .ok (.aload_n 0, 1) := by decide +kernel
theorem dX2_letOneGetUp_66 : decode cX2_letOneGetUp 66 = .ok (.aload_n 3, 1) := by decide +kernel
theorem dX2_letOneGetUp_67 : decode cX2_letOneGetUp 67 = .ok (.aload_n 0, 1) := by decide +kernel
theorem dX2_letOneGetUp_68 : decode cX2_letOneGetUp 68 = .ok (.getfield 36, 3) := by decide +kernel
theorem dX2_letOneGetUp_71 : decode cX2_letOneGetUp 71 = .ok (.aload_n 0, 1) := by decide +kernel
theorem dX2_letOneGetUp_72 : decode cX2_letOneGetUp 72 = .ok (.getfield 25, 3) := by decide +kernel
theorem dX2_letOneGetUp_75 : decode cX2_letOneGetUp 75 = .ok (.iload 4, 2) := by decide +kernel
theorem dX2_letOneGetUp_77 : decode cX2_letOneGetUp 77 = .ok (.aload_n 0, 1) := by decide +kernel
theorem dX2_letOneGetUp_78 : decode cX2_letOneGetUp 78 = .ok (.getfield 39, 3) := by decide +kernel
theorem dX2_letOneGetUp_81 : decode cX2_letOneGetUp 81 = .ok (.aload_n 0, 1) := by decide +kernel
theorem dX2_letOneGetUp_82 : decode cX2_letOneGetUp 82 = .ok (.getfield 9, 3) := by decide +kernel
theorem dX2_letOneGetUp_85 : decode cX2_letOneGetUp 85 = .ok (.iadd, 1) := by decide +kernel
theorem dX2_letOneGetUp_86 : decode cX2_letOneGetUp 86 = .ok (.iconst 2, 1) := by decide +kernel
theorem dX2_letOneGetUp_87 : decode cX2_letOneGetUp 87 = .ok (.idiv, 1) := by decide +kernel
theorem dX2_letOneGetUp_88 : decode cX2_letOneGetUp 88 = .ok (.iload_n 1, 1) := by decide +kernel
theorem dX2_letOneGetUp_89 : decode cX2_letOneGetUp 89 = .ok (.invokevirtual 117, 3) := by decide +kernel
theorem dX2_letOneGetUp_92 : decode cX2_letOneGetUp 92 = .ok (.invokevirtual 120, 3) := by decide +kernel
theorem dX2_letOneGetUp_95 : decode cX2_letOneGetUp 95 = .ok (.putfield 36, 3) := by decide +kernel
theorem dX2_letOneGetUp_98 : decode cX2_letOneGetUp 98 = .ok (.aload_n 2, 1) := by decide +kernel
theorem dX2_letOneGetUp_99 : decode cX2_letOneGetUp 99 = .ok (.aload_n 0, 1) := by decide +kernel
theorem dX2_letOneGetUp_100 : decode cX2_letOneGetUp 100 = .ok (.getfield 55, 3) := by decide +kernel
theorem dX2_letOneGetUp_103 : decode cX2_letOneGetUp 103 = .ok (.aload_n 3, 1) := by decide +kernel
theorem dX2_letOneGetUp_104 : decode cX2_letOneGetUp 104 = .ok (.getfield 124, 3) := by decide +kernel
theorem dX2_letOneGetUp_107 : decode cX2_letOneGetUp 107 = .ok (.invokevirtual 127, 3) := by decide +kernel
theorem dX2_letOneGetUp_110 : decode cX2_letOneGetUp 110 = .ok (.aload_n 0, 1) := by decide +kernel
theorem dX2_letOneGetUp_111 : decode cX2_letOneGetUp 111 = .ok (.aload_n 0, 1) := by decide +kernel
theorem dX2_letOneGetUp_112 : decode cX2_letOneGetUp 112 = .ok (.getfield 55, 3) := by decide +kernel
theorem dX2_letOneGetUp_115 : decode cX2_letOneGetUp 115 = .ok (.iconst 1, 1) := by decide +kernel
theorem dX2_letOneGetUp_116 : decode cX2_letOneGetUp 116 = .ok (.iadd, 1) := by decide +kernel
theorem dX2_letOneGetUp_117 : decode cX2_letOneGetUp 117 = .ok (.aload_n 0, 1) := by decide +kernel
theorem dX2_letOneGetUp_118 : decode cX2_letOneGetUp 118 = .ok (.getfield 49, 3) := by decide +kernel
theorem dX2_letOneGetUp_121 : decode cX2_letOneGetUp 121 = .ok (.if_icmp .ge 12, 3) := by decide +kernel
theorem dX2_letOneGetUp_124 : decode cX2_letOneGetUp 124 = .ok (.aload_n 0, 1) := by decide +kernel
theorem dX2_letOneGetUp_125 : decode cX2_letOneGetUp 125 = .ok (.getfield 55, 3) := by decide +kernel
theorem dX2_letOneGetUp_128 : decode cX2_letOneGetUp 128 = .ok (.iconst 1, 1) := by decide +kernel
theorem dX2_letOneGetUp_129 : decode cX2_letOneGetUp 129 = .ok (.iadd, 1) := by decide +kernel
theorem dX2_letOneGetUp_130 : decode cX2_letOneGetUp 130 = .ok (.goto 4, 3) := by decide +kernel
theorem dX2_letOneGetUp_133 : decode cX2_letOneGetUp 133 = .ok (.iconst 0, 1) := by decide +kernel
theorem dX2_letOneGetUp_134 : decode cX2_letOneGetUp 134 = .ok (.putfield 55, 3) := by decide +kernel
theorem dX2_letOneGetUp_137 : decode cX2_letOneGetUp 137 = .ok (.return_, 1) := by decide +kernel
theorem dX2_botherAll_0 : decode cX2_botherAll 0 = .ok (.aload_n 0, 1) := by decide +kernel
theorem dX2_botherAll_1 : decode cX2_botherAll 1 = .ok (.iconst 0, 1) := by decide +kernel
theorem dX2_botherAll_2 : decode cX2_botherAll 2 = .ok (.invokevirtual 103, 3) := by decide +kernel
theorem dX2_botherAll_5 : decode cX2_botherAll 5 = .ok (.istore_n 2, 1) := by decide +kernel
theorem dX2_botherAll_6 : decode cX2_botherAll 6 = .ok (.aload_n 0, 1) := by decide +kernel
theorem dX2_botherAll_7 : decode cX2_botherAll 7 = .ok (.iconst 1, 1) := by decide +kernel
theorem dX2_botherAll_8 : decode cX2_botherAll 8 = .ok (.invokevirtual 103, 3) := by decide +kernel
theorem dX2_botherAll_11 : decode cX2_botherAll 11 = .ok (.istore_n 3, 1) := by decide +kernel
theorem dX2_botherAll_12 : decode cX2_botherAll 12 = .ok (.iconst 0, 1) := by decide +kernel
theorem dX2_botherAll_13 : decode cX2_botherAll 13 = .ok (.istore 4, 2) := by decide +kernel
theorem dX2_botherAll_15 : decode cX2_botherAll 15 = .ok (.iload 4, 2) := by decide +kernel
theorem dX2_botherAll_17 : decode cX2_botherAll 17 = .ok (.aload_n 0, 1) := by decide +kernel
theorem dX2_botherAll_18 : decode cX2_botherAll 18 = .ok (.getfield 49, 3) := by decide +kernel
theorem dX2_botherAll_21 : decode cX2_botherAll 21 = .ok (.if_icmp .ge 48, 3) := by decide +kernel
theorem dX2_botherAll_24 : decode cX2_botherAll 24 = .ok (.iload 4, 2) := by decide +kernel
theorem dX2_botherAll_26 : decode cX2_botherAll 26 = .ok (.iconst 5, 1) := by decide +kernel
theorem dX2_botherAll_27 : decode cX2_botherAll 27 = .ok (.if_icmp .ge 42, 3) := by decide +kernel
theorem dX2_botherAll_30 : decode cX2_botherAll 30 = .ok (.aload_n 0, 1) := by decide +kernel
theorem dX2_botherAll_31 : decode cX2_botherAll 31 = .ok (.getfield 31, 3) := by decide +kernel
theorem dX2_botherAll_34 : decode cX2_botherAll 34 = .ok (.iload 4, 2) := by decide +kernel
theorem dX2_botherAll_36 : decode cX2_botherAll 36 = .ok (.aaload, 1) := by decide +kernel
theorem dX2_botherAll_37 : decode cX2_botherAll 37 = .ok (.astore 5, 2) := by decide +kernel
theorem dX2_botherAll_39 : decode cX2_botherAll 39 = .ok (.aload_n 1, 1) := by decide +kernel
theorem dX2_botherAll_40 : decode cX2_botherAll 40 = .ok (.iload 4, 2) := by decide +kernel
theorem dX2_botherAll_42 : decode cX2_botherAll 42 = .ok (.aload 5, 2) := by decide +kernel
theorem dX2_botherAll_44 : decode cX2_botherAll 44 = .ok (.aload 5, 2) := by decide +kernel
theorem dX2_botherAll_46 : decode cX2_botherAll 46 = .ok (.getfield 110, 3) := by decide +kernel
theorem dX2_botherAll_49 : decode cX2_botherAll 49 = .ok (.ifCond .ne 7, 3) := by decide +kernel
theorem dX2_botherAll_52 : decode cX2_botherAll 52 = .ok (.iload_n 2, 1) := by decide +kernel
theorem dX2_botherAll_53 : decode cX2_botherAll 53 = .ok (.goto 4, 3) := by decide +kernel
theorem dX2_botherAll_56 : decode cX2_botherAll 56 = .ok (.iload_n 3, 1) := by decide +kernel
theorem dX2_botherAll_57 : decode cX2_botherAll 57 = .ok (.invokevirtual 133, 3) := by decide +kernel
theorem dX2_botherAll_60 : decode cX2_botherAll 60 = .ok (.invokevirtual 136, 3) := by decide +kernel
theorem dX2_botherAll_63 : decode cX2_botherAll 63 = .ok (.iinc 4 1, 3) := by decide +kernel
theorem dX2_botherAll_66 : decode cX2_botherAll 66 = .ok (.goto (-51), 3) := by decide +kernel
theorem dX2_botherAll_69 : decode cX2_botherAll 69 = .ok (.aload_n 1, 1) := by decide +kernel
theorem dX2_botherAll_70 : decode cX2_botherAll 70 = .ok (.iload_n 2, 1) := by decide +kernel
theorem dX2_botherAll_71 : decode cX2_botherAll 71 = .ok (.iload_n 3, 1) := by decide +kernel
theorem dX2_botherAll_72 : decode cX2_botherAll 72 = .ok (.invokevirtual 139, 3) := by decide +kernel
theorem dX2_botherAll_75 : decode cX2_botherAll 75 = .ok (.return_, 1) := by decide +kernel
theorem dX2_off_0 : decode cX2_off 0 = .ok (.aload_n 0, 1) := by decide +kernel
theorem dX2_off_1 : decode cX2_off 1 = .ok (.getfield 36, 3) := by decide +kernel
theorem dX2_off_4 : decode cX2_off 4 = .ok (.iload_n 1, 1) := by decide +kernel
theorem dX2_off_5 : decode cX2_off 5 = .ok (.ifCond .ne 10, 3) := by decide +kernel
theorem dX2_off_8 : decode cX2_off 8 = .ok (.aload_n 0, 1) := by decide +kernel
theorem dX2_off_9 : decode cX2_off 9 = .ok (.getfield 39, 3) := by decide +kernel
theorem dX2_off_12 : decode cX2_off 12 = .ok (.goto 7, 3) := by decide +kernel
theorem dX2_off_15 : decode cX2_off 15 = .ok (.aload_n 0, 1) := by decide +kernel
theorem dX2_off_16 : decode cX2_off 16 = .ok (.getfield 9, 3) := by decide +kernel
theorem dX2_off_19 : decode cX2_off 19 = .ok (.isub, 1) := by decide +kernel
theorem dX2_off_20 : decode cX2_off 20 = .ok (.invokestatic 142, 3) := by decide +kernel
theorem dX2_off_23 : decode cX2_off 23 = .ok (.ireturn, 1) := by decide +kernel
theorem dX3_init_0 : decode cX3_init 0 = .ok (.aload_n 0, 1) := by decide +kernel
theorem dX3_init_1 : decode cX3_init 1 = .ok (.invokespecial 1, 3) := by decide +kernel
theorem dX3_init_4 : decode cX3_init 4 = .ok (.aload_n 0, 1) := by decide +kernel
theorem dX3_init_5 : decode cX3_init 5 = .ok (.iconst 1, 1) := by decide +kernel
theorem dX3_init_6 : decode cX3_init 6 = .ok (.putfield 7, 3) := by decide +kernel
theorem dX3_init_9 : decode cX3_init 9 = .ok (.return_, 1) := by decide +kernel
theorem dX3_become_0 : decode cX3_become 0 = .ok (.aload_n 0, 1) := by decide +kernel
theorem dX3_become_1 : decode cX3_become 1 = .ok (.aload_n 1, 1) := by decide +kernel
theorem dX3_become_2 : decode cX3_become 2 = .ok (.getfield 13, 3) := by decide +kernel
theorem dX3_become_5 : decode cX3_become 5 = .ok (.putfield 13, 3) := by decide +kernel
theorem dX3_become_8 : decode cX3_become 8 = .ok (.aload_n 0, 1) := by decide +kernel
theorem dX3_become_9 : decode cX3_become 9 = .ok (.aload_n 1, 1) := by decide +kernel
theorem dX3_become_10 : decode cX3_become 10 = .ok (.getfield 16, 3) := by decide +kernel
theorem dX3_become_13 : decode cX3_become 13 = .ok (.putfield 16, 3) := by decide +kernel
theorem dX3_become_16 : decode cX3_become 16 = .ok (.aload_n 0, 1) := by decide +kernel
theorem dX3_become_17 : decode cX3_become 17 = .ok (.aload_n 1, 1) := by decide +kernel
theorem dX3_become_18 : decode cX3_become 18 = .ok (.getfield 19, 3) := by decide +kernel
theorem dX3_become_21 : decode cX3_become 21 = .ok (.putfield 19, 3) := by decide +kernel
theorem dX3_become_24 : decode cX3_become 24 = .ok (.aload_n 0, 1) := by decide +kernel
theorem dX3_become_25 : decode cX3_become 25 = .ok (.aload_n 1, 1) := by decide +kernel
theorem dX3_become_26 : decode cX3_become 26 = .ok (.getfield 22, 3) := by decide +kernel
theorem dX3_become_29 : decode cX3_become 29 = .ok (.putfield 22, 3) := by decide +kernel
theorem dX3_become_32 : decode cX3_become 32 = .ok (.aload_n 0, 1) := by decide +kernel
theorem dX3_become_33 : decode cX3_become 33 = .ok (.aload_n 1, 1) := by decide +kernel
theorem dX3_become_34 : decode cX3_become 34 = .ok (.getfield 7, 3) := by decide +kernel
theorem dX3_become_37 : decode cX3_become 37 = .ok (.putfield 7, 3) := by decide +kernel
theorem dX3_become_40 : decode cX3_become 40 = .ok (.aload_n 0, 1) := by decide +kernel
theorem dX3_become_41 : decode cX3_become 41 = .ok (.aload_n 1, 1) := by decide +kernel
theorem dX3_become_42 : decode cX3_become 42 = .ok (.getfield 25, 3) := by decide +kernel
theorem dX3_become_45 : decode cX3_become 45 = .ok (.putfield 25, 3) := by decide +kernel
theorem dX3_become_48 : decode cX3_become 48 = .ok (.return_, 1) := by decide +kernel
theorem dX3_detail_0 : decode cX3_detail 0 = .ok (.iload_n 1, 1) := by decide +kernel
theorem dX3_detail_1 : decode cX3_detail 1 = .ok (.tableswitch 60 0 4 #[35, 40, 45, 50, 55], 35) := by decide +kernel
theorem dX3_detail_36 : decode cX3_detail 36 = .ok (.aload_n 0, 1) := by decide +kernel
theorem dX3_detail_37 : decode cX3_detail 37 = .ok (.getfield 13, 3) := by decide +kernel
theorem dX3_detail_40 : decode cX3_detail 40 = .ok (.ireturn, 1) := by decide +kernel
theorem dX3_detail_41 : decode cX3_detail 41 = .ok (.aload_n 0, 1) := by decide +kernel
theorem dX3_detail_42 : decode cX3_detail 42 = .ok (.getfield 16, 3) := by decide +kernel
theorem dX3_detail_45 : decode cX3_detail 45 = .ok (.ireturn, 1) := by decide +kernel
theorem dX3_detail_46 : decode cX3_detail 46 = .ok (.aload_n 0, 1) := by decide +kernel
theorem dX3_detail_47 : decode cX3_detail 47 = .ok (.getfield 19, 3) := by decide +kernel
theorem dX3_detail_50 : decode cX3_detail 50 = .ok (.ireturn, 1) := by decide +kernel
theorem dX3_detail_51 : decode cX3_detail 51 = .ok (.aload_n 0, 1) := by decide +kernel
theorem dX3_detail_52 : decode cX3_detail 52 = .ok (.getfield 22, 3) := by decide +kernel
theorem dX3_detail_55 : decode cX3_detail 55 = .ok (.ireturn, 1) := by decide +kernel
theorem dX3_detail_56 : decode cX3_detail 56 = .ok (.aload_n 0, 1) := by decide +kernel
theorem dX3_detail_57 : decode cX3_detail 57 = .ok (.getfield 7, 3) := by decide +kernel
theorem dX3_detail_60 : decode cX3_detail 60 = .ok (.ireturn, 1) := by decide +kernel
theorem dX3_detail_61 : decode cX3_detail 61 = .ok (.aload_n 0, 1) := by decide +kernel
theorem dX3_detail_62 : decode cX3_detail 62 = .ok (.getfield 25, 3) := by decide +kernel
theorem dX3_detail_65 : decode cX3_detail 65 = .ok (.ireturn, 1) := by decide +kernel
theorem dX3_botheredBy_0 : decode cX3_botheredBy 0 = .ok (.aload_n 0, 1) := by decide +kernel
theorem dX3_botheredBy_1 : decode cX3_botheredBy 1 = .ok (.getfield 13, 3) := by decide +kernel
theorem dX3_botheredBy_4 : decode cX3_botheredBy 4 = .ok (.tableswitch 108 1 4 #[32, 42, 51, 81], 32) := by decide +kernel
theorem dX3_botheredBy_36 : decode cX3_botheredBy 36 = .ok (.aload_n 0, 1) := by decide +kernel
theorem dX3_botheredBy_37 : decode cX3_botheredBy 37 = .ok (.iload_n 1, 1) := by decide +kernel
theorem dX3_botheredBy_38 : decode cX3_botheredBy 38 = .ok (.aload_n 0, 1) := by decide +kernel
theorem dX3_botheredBy_39 : decode cX3_botheredBy 39 = .ok (.getfield 19, 3) := by decide +kernel
theorem dX3_botheredBy_42 : decode cX3_botheredBy 42 = .ok (.invokevirtual 28, 3) := by decide +kernel
theorem dX3_botheredBy_45 : decode cX3_botheredBy 45 = .ok (.ireturn, 1) := by decide +kernel
theorem dX3_botheredBy_46 : decode cX3_botheredBy 46 = .ok (.iconst 2, 1) := by decide +kernel
theorem dX3_botheredBy_47 : decode cX3_botheredBy 47 = .ok (.iload_n 1, 1) := by decide +kernel
theorem dX3_botheredBy_48 : decode cX3_botheredBy 48 = .ok (.imul, 1) := by decide +kernel
theorem dX3_botheredBy_49 : decode cX3_botheredBy 49 = .ok (.aload_n 0, 1) := by decide +kernel
theorem dX3_botheredBy_50 : decode cX3_botheredBy 50 = .ok (.getfield 16, 3) := by decide +kernel
theorem dX3_botheredBy_53 : decode cX3_botheredBy 53 = .ok (.imul, 1) := by decide +kernel
theorem dX3_botheredBy_54 : decode cX3_botheredBy 54 = .ok (.ireturn, 1) := by decide +kernel
theorem dX3_botheredBy_55 : decode cX3_botheredBy 55 = .ok (.iload_n 1, 1) := by decide +kernel
theorem dX3_botheredBy_56 : decode cX3_botheredBy 56 = .ok (.iconst 2, 1) := by decide +kernel
theorem dX3_botheredBy_57 : decode cX3_botheredBy 57 = .ok (.if_icmp .le 19, 3) := by decide +kernel
theorem dX3_botheredBy_60 : decode cX3_botheredBy 60 = .ok (.iconst 2, 1) := by decide +kernel
theorem dX3_botheredBy_61 : decode cX3_botheredBy 61 = .ok (.iload_n 1, 1) := by decide +kernel
theorem dX3_botheredBy_62 : decode cX3_botheredBy 62 = .ok (.imul, 1) := by decide +kernel
theorem dX3_botheredBy_63 : decode cX3_botheredBy 63 = .ok (.aload_n 0, 1) := by decide +kernel
theorem dX3_botheredBy_64 : decode cX3_botheredBy 64 = .ok (.getfield 16, 3) := by decide +kernel
theorem dX3_botheredBy_67 : decode cX3_botheredBy 67 = .ok (.imul, 1) := by decide +kernel
theorem dX3_botheredBy_68 : decode cX3_botheredBy 68 = .ok (.aload_n 0, 1) := by decide +kernel
theorem dX3_botheredBy_69 : decode cX3_botheredBy 69 = .ok (.getfield 19, 3) := by decide +kernel
theorem dX3_botheredBy_72 : decode cX3_botheredBy 72 = .ok (.iadd, 1) := by decide +kernel
theorem dX3_botheredBy_73 : decode cX3_botheredBy 73 = .ok (.goto 11, 3) := by decide +kernel
theorem dX3_botheredBy_76 : decode cX3_botheredBy 76 = .ok (.iconst 2, 1) := by decide +kernel
theorem dX3_botheredBy_77 : decode cX3_botheredBy 77 = .ok (.iload_n 1, 1) := by decide +kernel
theorem dX3_botheredBy_78 : decode cX3_botheredBy 78 = .ok (.imul, 1) := by decide +kernel
theorem dX3_botheredBy_79 : decode cX3_botheredBy 79 = .ok (.aload_n 0, 1) := by decide +kernel
theorem dX3_botheredBy_80 : decode cX3_botheredBy 80 = .ok (.getfield 16, 3) := by decide +kernel
theorem dX3_botheredBy_83 : decode cX3_botheredBy 83 = .ok (.imul, 1) := by decide +kernel
theorem dX3_botheredBy_84 : decode cX3_botheredBy 84 = .ok (.ireturn, 1) := by decide +kernel
theorem dX3_botheredBy_85 : decode cX3_botheredBy 85 = .ok (.iload_n 1, 1) := by decide +kernel
theorem dX3_botheredBy_86 : decode cX3_botheredBy 86 = .ok (.bipush 20, 2) := by decide +kernel
theorem dX3_botheredBy_88 : decode cX3_botheredBy 88 = .ok (.if_icmp .lt 12, 3) := by decide +kernel
theorem dX3_botheredBy_91 : decode cX3_botheredBy 91 = .ok (.iload_n 1, 1) := by decide +kernel
theorem dX3_botheredBy_92 : decode cX3_botheredBy 92 = .ok (.aload_n 0, 1) := by decide +kernel
theorem dX3_botheredBy_93 : decode cX3_botheredBy 93 = .ok (.getfield 16, 3) := by decide +kernel
theorem dX3_botheredBy_96 : decode cX3_botheredBy 96 = .ok (.imul, 1) := by decide +kernel
theorem dX3_botheredBy_97 : decode cX3_botheredBy 97 = .ok (.goto 14, 3) := by decide +kernel
theorem dX3_botheredBy_100 : decode cX3_botheredBy 100 = .ok (.aload_n 0, 1) := by decide +kernel
theorem dX3_botheredBy_101 : decode cX3_botheredBy 101 = .ok (.iload_n 1, 1) := by decide +kernel
theorem dX3_botheredBy_102 : decode cX3_botheredBy 102 = .ok (.iconst 2, 1) := by decide +kernel
theorem dX3_botheredBy_103 : decode cX3_botheredBy 103 = .ok (.aload_n 0, 1) := by decide +kernel
theorem dX3_botheredBy_104 : decode cX3_botheredBy 104 = .ok (.getfield 19, 3) := by decide +kernel
theorem dX3_botheredBy_107 : decode cX3_botheredBy 107 = .ok (.imul, 1) := by decide +kernel
theorem dX3_botheredBy_108 : decode cX3_botheredBy 108 = .ok (.invokevirtual 28, 3) := by decide +kernel
theorem dX3_botheredBy_111 : decode cX3_botheredBy 111 = .ok (.ireturn, 1) := by decide +kernel
theorem dX3_botheredBy_112 : decode cX3_botheredBy 112 = .ok (.iload_n 1, 1) := by decide +kernel
theorem dX3_botheredBy_113 : decode cX3_botheredBy 113 = .ok (.aload_n 0, 1) := by decide +kernel
theorem dX3_botheredBy_114 : decode cX3_botheredBy 114 = .ok (.getfield 16, 3) := by decide +kernel
theorem dX3_botheredBy_117 : decode cX3_botheredBy 117 = .ok (.imul, 1) := by decide +kernel
theorem dX3_botheredBy_118 : decode cX3_botheredBy 118 = .ok (.ireturn, 1) := by decide +kernel
theorem dX3_deafTo_0 : decode cX3_deafTo 0 = .ok (.iload_n 1, 1) := by decide +kernel
theorem dX3_deafTo_1 : decode cX3_deafTo 1 = .ok (.iload_n 2, 1) := by decide +kernel
theorem dX3_deafTo_2 : decode cX3_deafTo 2 = .ok (.if_icmp .le 14, 3) := by decide +kernel
theorem dX3_deafTo_5 : decode cX3_deafTo 5 = .ok (.iload_n 1, 1) := by decide +kernel
theorem dX3_deafTo_6 : decode cX3_deafTo 6 = .ok (.iload_n 2, 1) := by decide +kernel
theorem dX3_deafTo_7 : decode cX3_deafTo 7 = .ok (.isub, 1) := by decide +kernel
theorem dX3_deafTo_8 : decode cX3_deafTo 8 = .ok (.aload_n 0, 1) := by decide +kernel
theorem dX3_deafTo_9 : decode cX3_deafTo 9 = .ok (.getfield 16, 3) := by decide +kernel
theorem dX3_deafTo_12 : decode cX3_deafTo 12 = .ok (.imul, 1) := by decide +kernel
theorem dX3_deafTo_13 : decode cX3_deafTo 13 = .ok (.goto 4, 3) := by decide +kernel
theorem dX3_deafTo_16 : decode cX3_deafTo 16 = .ok (.iconst 0, 1) := by decide +kernel
theorem dX3_deafTo_17 : decode cX3_deafTo 17 = .ok (.ireturn, 1) := by decide +kernel
theorem dX3_turned_0 : decode cX3_turned 0 = .ok (.aload_n 0, 1) := by decide +kernel
theorem dX3_turned_1 : decode cX3_turned 1 = .ok (.getfield 7, 3) := by decide +kernel
theorem dX3_turned_4 : decode cX3_turned 4 = .ok (.iconst 1, 1) := by decide +kernel
theorem dX3_turned_5 : decode cX3_turned 5 = .ok (.if_icmp .ge 5, 3) := by decide +kernel
theorem dX3_turned_8 : decode cX3_turned 8 = .ok (.iload_n 1, 1) := by decide +kernel
theorem dX3_turned_9 : decode cX3_turned 9 = .ok (.ireturn, 1) := by decide +kernel
theorem dX3_turned_10 : decode cX3_turned 10 = .ok (.iload_n 2, 1) := by decide +kernel
theorem dX3_turned_11 : decode cX3_turned 11 = .ok (.iload_n 1, 1) := by decide +kernel
theorem dX3_turned_12 : decode cX3_turned 12 = .ok (.isub, 1) := by decide +kernel
theorem dX3_turned_13 : decode cX3_turned 13 = .ok (.invokestatic 32, 3) := by decide +kernel
theorem dX3_turned_16 : decode cX3_turned 16 = .ok (.istore_n 3, 1) := by decide +kernel
theorem dX3_turned_17 : decode cX3_turned 17 = .ok (.iload_n 3, 1) := by decide +kernel
theorem dX3_turned_18 : decode cX3_turned 18 = .ok (.aload_n 0, 1) := by decide +kernel
theorem dX3_turned_19 : decode cX3_turned 19 = .ok (.getfield 7, 3) := by decide +kernel
theorem dX3_turned_22 : decode cX3_turned 22 = .ok (.idiv, 1) := by decide +kernel
theorem dX3_turned_23 : decode cX3_turned 23 = .ok (.istore 4, 2) := by decide +kernel
theorem dX3_turned_25 : decode cX3_turned 25 = .ok (.iconst 2, 1) := by decide +kernel
theorem dX3_turned_26 : decode cX3_turned 26 = .ok (.iload_n 3, 1) := by decide +kernel
theorem dX3_turned_27 : decode cX3_turned 27 = .ok (.aload_n 0, 1) := by decide +kernel
theorem dX3_turned_28 : decode cX3_turned 28 = .ok (.getfield 7, 3) := by decide +kernel
theorem dX3_turned_31 : decode cX3_turned 31 = .ok (.irem, 1) := by decide +kernel
theorem dX3_turned_32 : decode cX3_turned 32 = .ok (.imul, 1) := by decide +kernel
theorem dX3_turned_33 : decode cX3_turned 33 = .ok (.aload_n 0, 1) := by decide +kernel
theorem dX3_turned_34 : decode cX3_turned 34 = .ok (.getfield 7, 3) := by decide +kernel
theorem dX3_turned_37 : decode cX3_turned 37 = .ok (.if_icmp .le 6, 3) := by decide +kernel
theorem dX3_turned_40 : decode cX3_turned 40 = .ok (.iinc 4 1, 3) := by decide +kernel
theorem dX3_turned_43 : decode cX3_turned 43 = .ok (.iload_n 2, 1) := by decide +kernel
theorem dX3_turned_44 : decode cX3_turned 44 = .ok (.iload_n 1, 1) := by decide +kernel
theorem dX3_turned_45 : decode cX3_turned 45 = .ok (.if_icmp .le 15, 3) := by decide +kernel
theorem dX3_turned_48 : decode cX3_turned 48 = .ok (.iload_n 1, 1) := by decide +kernel
theorem dX3_turned_49 : decode cX3_turned 49 = .ok (.iload 4, 2) := by decide +kernel
theorem dX3_turned_51 : decode cX3_turned 51 = .ok (.aload_n 0, 1) := by decide +kernel
theorem dX3_turned_52 : decode cX3_turned 52 = .ok (.getfield 7, 3) := by decide +kernel
theorem dX3_turned_55 : decode cX3_turned 55 = .ok (.imul, 1) := by decide +kernel
theorem dX3_turned_56 : decode cX3_turned 56 = .ok (.iadd, 1) := by decide +kernel
theorem dX3_turned_57 : decode cX3_turned 57 = .ok (.goto 12, 3) := by decide +kernel
theorem dX3_turned_60 : decode cX3_turned 60 = .ok (.iload_n 1, 1) := by decide +kernel
theorem dX3_turned_61 : decode cX3_turned 61 = .ok (.iload 4, 2) := by decide +kernel
theorem dX3_turned_63 : decode cX3_turned 63 = .ok (.aload_n 0, 1) := by decide +kernel
theorem dX3_turned_64 : decode cX3_turned 64 = .ok (.getfield 7, 3) := by decide +kernel
theorem dX3_turned_67 : decode cX3_turned 67 = .ok (.imul, 1) := by decide +kernel
theorem dX3_turned_68 : decode cX3_turned 68 = .ok (.isub, 1) := by decide +kernel
theorem dX3_turned_69 : decode cX3_turned 69 = .ok (.ireturn, 1) := by decide +kernel
theorem dX4_init_0 : decode cX4_init 0 = .ok (.aload_n 0, 1) := by decide +kernel
theorem dX4_init_1 : decode cX4_init 1 = .ok (.invokespecial 1, 3) := by decide +kernel
theorem dX4_init_4 : decode cX4_init 4 = .ok (.aload_n 0, 1) := by decide +kernel
theorem dX4_init_5 : decode cX4_init 5 = .ok (.iconst 0, 1) := by decide +kernel
theorem dX4_init_6 : decode cX4_init 6 = .ok (.putfield 7, 3) := by decide +kernel
theorem dX4_init_9 : decode cX4_init 9 = .ok (.aload_n 0, 1) := by decide +kernel
theorem dX4_init_10 : decode cX4_init 10 = .ok (.iconst 3, 1) := by decide +kernel
theorem dX4_init_11 : decode cX4_init 11 = .ok (.putfield 13, 3) := by decide +kernel
theorem dX4_init_14 : decode cX4_init 14 = .ok (.aload_n 0, 1) := by decide +kernel
theorem dX4_init_15 : decode cX4_init 15 = .ok (.iconst 2, 1) := by decide +kernel
theorem dX4_init_16 : decode cX4_init 16 = .ok (.putfield 16, 3) := by decide +kernel
theorem dX4_init_19 : decode cX4_init 19 = .ok (.return_, 1) := by decide +kernel
theorem dX4_become_0 : decode cX4_become 0 = .ok (.aload_n 0, 1) := by decide +kernel
theorem dX4_become_1 : decode cX4_become 1 = .ok (.aload_n 1, 1) := by decide +kernel
theorem dX4_become_2 : decode cX4_become 2 = .ok (.getfield 7, 3) := by decide +kernel
theorem dX4_become_5 : decode cX4_become 5 = .ok (.putfield 7, 3) := by decide +kernel
theorem dX4_become_8 : decode cX4_become 8 = .ok (.aload_n 0, 1) := by decide +kernel
theorem dX4_become_9 : decode cX4_become 9 = .ok (.aload_n 1, 1) := by decide +kernel
theorem dX4_become_10 : decode cX4_become 10 = .ok (.getfield 13, 3) := by decide +kernel
theorem dX4_become_13 : decode cX4_become 13 = .ok (.putfield 13, 3) := by decide +kernel
theorem dX4_become_16 : decode cX4_become 16 = .ok (.aload_n 0, 1) := by decide +kernel
theorem dX4_become_17 : decode cX4_become 17 = .ok (.aload_n 1, 1) := by decide +kernel
theorem dX4_become_18 : decode cX4_become 18 = .ok (.getfield 16, 3) := by decide +kernel
theorem dX4_become_21 : decode cX4_become 21 = .ok (.putfield 16, 3) := by decide +kernel
theorem dX4_become_24 : decode cX4_become 24 = .ok (.return_, 1) := by decide +kernel
theorem dX4_rouses_0 : decode cX4_rouses 0 = .ok (.aload_n 0, 1) := by decide +kernel
theorem dX4_rouses_1 : decode cX4_rouses 1 = .ok (.getfield 7, 3) := by decide +kernel
theorem dX4_rouses_4 : decode cX4_rouses 4 = .ok (.lookupswitch 66 #[(2, 28), (4, 50)], 28) := by decide +kernel
theorem dX4_rouses_32 : decode cX4_rouses 32 = .ok (.aload_n 0, 1) := by decide +kernel
theorem dX4_rouses_33 : decode cX4_rouses 33 = .ok (.getfield 13, 3) := by decide +kernel
theorem dX4_rouses_36 : decode cX4_rouses 36 = .ok (.ifCond .le 16, 3) := by decide +kernel
theorem dX4_rouses_39 : decode cX4_rouses 39 = .ok (.iload_n 2, 1) := by decide +kernel
theorem dX4_rouses_40 : decode cX4_rouses 40 = .ok (.aload_n 0, 1) := by decide +kernel
theorem dX4_rouses_41 : decode cX4_rouses 41 = .ok (.getfield 13, 3) := by decide +kernel
theorem dX4_rouses_44 : decode cX4_rouses 44 = .ok (.irem, 1) := by decide +kernel
theorem dX4_rouses_45 : decode cX4_rouses 45 = .ok (.ifCond .ne 7, 3) := by decide +kernel
theorem dX4_rouses_48 : decode cX4_rouses 48 = .ok (.iconst 1, 1) := by decide +kernel
theorem dX4_rouses_49 : decode cX4_rouses 49 = .ok (.goto 4, 3) := by decide +kernel
theorem dX4_rouses_52 : decode cX4_rouses 52 = .ok (.iconst 0, 1) := by decide +kernel
theorem dX4_rouses_53 : decode cX4_rouses 53 = .ok (.ireturn, 1) := by decide +kernel
theorem dX4_rouses_54 : decode cX4_rouses 54 = .ok (.iload_n 1, 1) := by decide +kernel
theorem dX4_rouses_55 : decode cX4_rouses 55 = .ok (.iconst 2, 1) := by decide +kernel
theorem dX4_rouses_56 : decode cX4_rouses 56 = .ok (.aload_n 0, 1) := by decide +kernel
theorem dX4_rouses_57 : decode cX4_rouses 57 = .ok (.getfield 13, 3) := by decide +kernel
theorem dX4_rouses_60 : decode cX4_rouses 60 = .ok (.imul, 1) := by decide +kernel
theorem dX4_rouses_61 : decode cX4_rouses 61 = .ok (.if_icmp .le 7, 3) := by decide +kernel
theorem dX4_rouses_64 : decode cX4_rouses 64 = .ok (.iconst 1, 1) := by decide +kernel
theorem dX4_rouses_65 : decode cX4_rouses 65 = .ok (.goto 4, 3) := by decide +kernel
theorem dX4_rouses_68 : decode cX4_rouses 68 = .ok (.iconst 0, 1) := by decide +kernel
theorem dX4_rouses_69 : decode cX4_rouses 69 = .ok (.ireturn, 1) := by decide +kernel
theorem dX4_rouses_70 : decode cX4_rouses 70 = .ok (.iload_n 1, 1) := by decide +kernel
theorem dX4_rouses_71 : decode cX4_rouses 71 = .ok (.aload_n 0, 1) := by decide +kernel
theorem dX4_rouses_72 : decode cX4_rouses 72 = .ok (.getfield 13, 3) := by decide +kernel
theorem dX4_rouses_75 : decode cX4_rouses 75 = .ok (.if_icmp .le 7, 3) := by decide +kernel
theorem dX4_rouses_78 : decode cX4_rouses 78 = .ok (.iconst 1, 1) := by decide +kernel
theorem dX4_rouses_79 : decode cX4_rouses 79 = .ok (.goto 4, 3) := by decide +kernel
theorem dX4_rouses_82 : decode cX4_rouses 82 = .ok (.iconst 0, 1) := by decide +kernel
theorem dX4_rouses_83 : decode cX4_rouses 83 = .ok (.ireturn, 1) := by decide +kernel
theorem dX4_aim_0 : decode cX4_aim 0 = .ok (.aload_n 0, 1) := by decide +kernel
theorem dX4_aim_1 : decode cX4_aim 1 = .ok (.getfield 7, 3) := by decide +kernel
theorem dX4_aim_4 : decode cX4_aim 4 = .ok (.tableswitch 41 1 4 #[32, 41, 39, 32], 32) := by decide +kernel
theorem dX4_aim_36 : decode cX4_aim 36 = .ok (.aload_n 0, 1) := by decide +kernel
theorem dX4_aim_37 : decode cX4_aim 37 = .ok (.iload_n 1, 1) := by decide +kernel
theorem dX4_aim_38 : decode cX4_aim 38 = .ok (.iload_n 3, 1) := by decide +kernel
theorem dX4_aim_39 : decode cX4_aim 39 = .ok (.invokevirtual 19, 3) := by decide +kernel
theorem dX4_aim_42 : decode cX4_aim 42 = .ok (.ireturn, 1) := by decide +kernel
theorem dX4_aim_43 : decode cX4_aim 43 = .ok (.iload_n 2, 1) := by decide +kernel
theorem dX4_aim_44 : decode cX4_aim 44 = .ok (.ireturn, 1) := by decide +kernel
theorem dX4_aim_45 : decode cX4_aim 45 = .ok (.iload_n 1, 1) := by decide +kernel
theorem dX4_aim_46 : decode cX4_aim 46 = .ok (.ireturn, 1) := by decide +kernel
theorem dX4_against_0 : decode cX4_against 0 = .ok (.iload_n 2, 1) := by decide +kernel
theorem dX4_against_1 : decode cX4_against 1 = .ok (.ifCond .ne 5, 3) := by decide +kernel
theorem dX4_against_4 : decode cX4_against 4 = .ok (.iload_n 1, 1) := by decide +kernel
theorem dX4_against_5 : decode cX4_against 5 = .ok (.ireturn, 1) := by decide +kernel
theorem dX4_against_6 : decode cX4_against 6 = .ok (.iload_n 2, 1) := by decide +kernel
theorem dX4_against_7 : decode cX4_against 7 = .ok (.ifCond .le 12, 3) := by decide +kernel
theorem dX4_against_10 : decode cX4_against 10 = .ok (.iload_n 1, 1) := by decide +kernel
theorem dX4_against_11 : decode cX4_against 11 = .ok (.aload_n 0, 1) := by decide +kernel
theorem dX4_against_12 : decode cX4_against 12 = .ok (.getfield 16, 3) := by decide +kernel
theorem dX4_against_15 : decode cX4_against 15 = .ok (.isub, 1) := by decide +kernel
theorem dX4_against_16 : decode cX4_against 16 = .ok (.goto 9, 3) := by decide +kernel
theorem dX4_against_19 : decode cX4_against 19 = .ok (.iload_n 1, 1) := by decide +kernel
theorem dX4_against_20 : decode cX4_against 20 = .ok (.aload_n 0, 1) := by decide +kernel
theorem dX4_against_21 : decode cX4_against 21 = .ok (.getfield 16, 3) := by decide +kernel
theorem dX4_against_24 : decode cX4_against 24 = .ok (.iadd, 1) := by decide +kernel
theorem dX4_against_25 : decode cX4_against 25 = .ok (.ireturn, 1) := by decide +kernel
theorem dX5_init_0 : decode cX5_init 0 = .ok (.aload_n 0, 1) := by decide +kernel
theorem dX5_init_1 : decode cX5_init 1 = .ok (.invokespecial 3, 3) := by decide +kernel
theorem dX5_init_4 : decode cX5_init 4 = .ok (.aload_n 0, 1) := by decide +kernel
theorem dX5_init_5 : decode cX5_init 5 = .ok (.bipush 96, 2) := by decide +kernel
theorem dX5_init_7 : decode cX5_init 7 = .ok (.newarray .char, 2) := by decide +kernel
theorem dX5_init_9 : decode cX5_init 9 = .ok (.putfield 9, 3) := by decide +kernel
theorem dX5_init_12 : decode cX5_init 12 = .ok (.return_, 1) := by decide +kernel
theorem dX5_add_0 : decode cX5_add 0 = .ok (.aload_n 0, 1) := by decide +kernel
theorem dX5_add_1 : decode cX5_add 1 = .ok (.getfield 15, 3) := by decide +kernel
theorem dX5_add_4 : decode cX5_add 4 = .ok (.ifCond .lt 32, 3) := by decide +kernel
theorem dX5_add_7 : decode cX5_add 7 = .ok (.aload_n 0, 1) := by decide +kernel
theorem dX5_add_8 : decode cX5_add 8 = .ok (.getfield 15, 3) := by decide +kernel
theorem dX5_add_11 : decode cX5_add 11 = .ok (.bipush 96, 2) := by decide +kernel
theorem dX5_add_13 : decode cX5_add 13 = .ok (.if_icmp .ge 23, 3) := by decide +kernel
theorem dX5_add_16 : decode cX5_add 16 = .ok (.aload_n 0, 1) := by decide +kernel
theorem dX5_add_17 : decode cX5_add 17 = .ok (.getfield 9, 3) := by decide +kernel
theorem dX5_add_20 : decode cX5_add 20 = .ok (.aload_n 0, 1) := by decide +kernel
theorem dX5_add_21 : decode cX5_add 21 = .ok (.getfield 15, 3) := by decide +kernel
theorem dX5_add_24 : decode cX5_add 24 = .ok (.iload_n 1, 1) := by decide +kernel
theorem dX5_add_25 : decode cX5_add 25 = .ok (.castore, 1) := by decide +kernel
theorem dX5_add_26 : decode cX5_add 26 = .ok (.aload_n 0, 1) := by decide +kernel
theorem dX5_add_27 : decode cX5_add 27 = .ok (.dup, 1) := by decide +kernel
theorem dX5_add_28 : decode cX5_add 28 = .ok (.getfield 15, 3) := by decide +kernel
theorem dX5_add_31 : decode cX5_add 31 = .ok (.iconst 1, 1) := by decide +kernel
theorem dX5_add_32 : decode cX5_add 32 = .ok (.iadd, 1) := by decide +kernel
theorem dX5_add_33 : decode cX5_add 33 = .ok (.putfield 15, 3) := by decide +kernel
theorem dX5_add_36 : decode cX5_add 36 = .ok (.return_, 1) := by decide +kernel
theorem dX5_shapeAt_0 : decode cX5_shapeAt 0 = .ok (.aload_n 0, 1) := by decide +kernel
theorem dX5_shapeAt_1 : decode cX5_shapeAt 1 = .ok (.iload_n 1, 1) := by decide +kernel
theorem dX5_shapeAt_2 : decode cX5_shapeAt 2 = .ok (.invokevirtual 19, 3) := by decide +kernel
theorem dX5_shapeAt_5 : decode cX5_shapeAt 5 = .ok (.tableswitch 113 100 119 #[104, 113, 113, 113, 113, 113, 113, 113, 113, 113, 110, 113, 95, 113, 107, 101, 113, 113, 113, 98], 95) := by decide +kernel
theorem dX5_shapeAt_100 : decode cX5_shapeAt 100 = .ok (.ldc 23, 2) := by decide +kernel
theorem dX5_shapeAt_102 : decode cX5_shapeAt 102 = .ok (.areturn, 1) := by decide +kernel
theorem dX5_shapeAt_103 : decode cX5_shapeAt 103 = .ok (.ldc 25, 2) := by decide +kernel
theorem dX5_shapeAt_105 : decode cX5_shapeAt 105 = .ok (.areturn, 1) := by decide +kernel
theorem dX5_shapeAt_106 : decode cX5_shapeAt 106 = .ok (.ldc 27, 2) := by decide +kernel
theorem dX5_shapeAt_108 : decode cX5_shapeAt 108 = .ok (.areturn, 1) := by decide +kernel
theorem dX5_shapeAt_109 : decode cX5_shapeAt 109 = .ok (.ldc 29, 2) := by decide +kernel
theorem dX5_shapeAt_111 : decode cX5_shapeAt 111 = .ok (.areturn, 1) := by decide +kernel
theorem dX5_shapeAt_112 : decode cX5_shapeAt 112 = .ok (.ldc 31, 2) := by decide +kernel
theorem dX5_shapeAt_114 : decode cX5_shapeAt 114 = .ok (.areturn, 1) := by decide +kernel
theorem dX5_shapeAt_115 : decode cX5_shapeAt 115 = .ok (.ldc 33, 2) := by decide +kernel
theorem dX5_shapeAt_117 : decode cX5_shapeAt 117 = .ok (.areturn, 1) := by decide +kernel
theorem dX5_shapeAt_118 : decode cX5_shapeAt 118 = .ok (.ldc 35, 2) := by decide +kernel
theorem dX5_shapeAt_120 : decode cX5_shapeAt 120 = .ok (.areturn, 1) := by decide +kernel
theorem dX5_firstUnfit_0 : decode cX5_firstUnfit 0 = .ok (.ldc 35, 2) := by decide +kernel
theorem dX5_firstUnfit_2 : decode cX5_firstUnfit 2 = .ok (.astore_n 1, 1) := by decide +kernel
theorem dX5_firstUnfit_3 : decode cX5_firstUnfit 3 = .ok (.iconst 0, 1) := by decide +kernel
theorem dX5_firstUnfit_4 : decode cX5_firstUnfit 4 = .ok (.istore_n 2, 1) := by decide +kernel
theorem dX5_firstUnfit_5 : decode cX5_firstUnfit 5 = .ok (.iconst 0, 1) := by decide +kernel
theorem dX5_firstUnfit_6 : decode cX5_firstUnfit 6 = .ok (.istore_n 3, 1) := by decide +kernel
theorem dX5_firstUnfit_7 : decode cX5_firstUnfit 7 = .ok (.iload_n 3, 1) := by decide +kernel
theorem dX5_firstUnfit_8 : decode cX5_firstUnfit 8 = .ok (.aload_n 0, 1) := by decide +kernel
theorem dX5_firstUnfit_9 : decode cX5_firstUnfit 9 = .ok (.getfield 15, 3) := by decide +kernel
theorem dX5_firstUnfit_12 : decode cX5_firstUnfit 12 = .ok (.if_icmp .ge 58, 3) := by decide +kernel
theorem dX5_firstUnfit_15 : decode cX5_firstUnfit 15 = .ok (.iload_n 2, 1) := by decide +kernel
theorem dX5_firstUnfit_16 : decode cX5_firstUnfit 16 = .ok (.aload_n 1, 1) := by decide +kernel
theorem dX5_firstUnfit_17 : decode cX5_firstUnfit 17 = .ok (.invokevirtual 37, 3) := by decide +kernel
theorem dX5_firstUnfit_20 : decode cX5_firstUnfit 20 = .ok (.if_icmp .ge 27, 3) := by decide +kernel
theorem dX5_firstUnfit_23 : decode cX5_firstUnfit 23 = .ok (.aload_n 1, 1) := by decide +kernel
theorem dX5_firstUnfit_24 : decode cX5_firstUnfit 24 = .ok (.iload_n 2, 1) := by decide +kernel
theorem dX5_firstUnfit_25 : decode cX5_firstUnfit 25 = .ok (.invokevirtual 43, 3) := by decide +kernel
