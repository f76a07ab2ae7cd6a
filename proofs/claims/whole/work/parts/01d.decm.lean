theorem dX3_init_0 : decode cX3_init 0 = .ok (.aload_n 0, 1) := by decide +kernel
theorem dX3_init_1 : decode cX3_init 1 = .ok (.invokespecial 1, 3) := by decide +kernel
theorem dX3_init_4 : decode cX3_init 4 = .ok (.aload_n 0, 1) := by decide +kernel
theorem dX3_init_5 : decode cX3_init 5 = .ok (.bipush 120, 2) := by decide +kernel
theorem dX3_init_7 : decode cX3_init 7 = .ok (.newarray .int, 2) := by decide +kernel
theorem dX3_init_9 : decode cX3_init 9 = .ok (.putfield 7, 3) := by decide +kernel
theorem dX3_init_12 : decode cX3_init 12 = .ok (.aload_n 0, 1) := by decide +kernel
theorem dX3_init_13 : decode cX3_init 13 = .ok (.bipush 121, 2) := by decide +kernel
theorem dX3_init_15 : decode cX3_init 15 = .ok (.newarray .int, 2) := by decide +kernel
theorem dX3_init_17 : decode cX3_init 17 = .ok (.putfield 13, 3) := by decide +kernel
theorem dX3_init_20 : decode cX3_init 20 = .ok (.aload_n 0, 1) := by decide +kernel
theorem dX3_init_21 : decode cX3_init 21 = .ok (.bipush 121, 2) := by decide +kernel
theorem dX3_init_23 : decode cX3_init 23 = .ok (.newarray .int, 2) := by decide +kernel
theorem dX3_init_25 : decode cX3_init 25 = .ok (.putfield 16, 3) := by decide +kernel
theorem dX3_init_28 : decode cX3_init 28 = .ok (.aload_n 0, 1) := by decide +kernel
theorem dX3_init_29 : decode cX3_init 29 = .ok (.sipush 1694, 3) := by decide +kernel
theorem dX3_init_32 : decode cX3_init 32 = .ok (.newarray .int, 2) := by decide +kernel
theorem dX3_init_34 : decode cX3_init 34 = .ok (.putfield 19, 3) := by decide +kernel
theorem dX3_init_37 : decode cX3_init 37 = .ok (.aload_n 0, 1) := by decide +kernel
theorem dX3_init_38 : decode cX3_init 38 = .ok (.sipush 242, 3) := by decide +kernel
theorem dX3_init_41 : decode cX3_init 41 = .ok (.newarray .int, 2) := by decide +kernel
theorem dX3_init_43 : decode cX3_init 43 = .ok (.putfield 22, 3) := by decide +kernel
theorem dX3_init_46 : decode cX3_init 46 = .ok (.aload_n 0, 1) := by decide +kernel
theorem dX3_init_47 : decode cX3_init 47 = .ok (.iconst 2, 1) := by decide +kernel
theorem dX3_init_48 : decode cX3_init 48 = .ok (.newarray .boolean, 2) := by decide +kernel
theorem dX3_init_50 : decode cX3_init 50 = .ok (.putfield 25, 3) := by decide +kernel
theorem dX3_init_53 : decode cX3_init 53 = .ok (.aload_n 0, 1) := by decide +kernel
theorem dX3_init_54 : decode cX3_init 54 = .ok (.bipush 6, 2) := by decide +kernel
theorem dX3_init_56 : decode cX3_init 56 = .ok (.newarray .boolean, 2) := by decide +kernel
theorem dX3_init_58 : decode cX3_init 58 = .ok (.putfield 29, 3) := by decide +kernel
theorem dX3_init_61 : decode cX3_init 61 = .ok (.aload_n 0, 1) := by decide +kernel
theorem dX3_init_62 : decode cX3_init 62 = .ok (.getfield 13, 3) := by decide +kernel
theorem dX3_init_65 : decode cX3_init 65 = .ok (.invokestatic 32, 3) := by decide +kernel
theorem dX3_init_68 : decode cX3_init 68 = .ok (.return_, 1) := by decide +kernel
theorem dX3_thrown_0 : decode cX3_thrown 0 = .ok (.aload_n 0, 1) := by decide +kernel
theorem dX3_thrown_1 : decode cX3_thrown 1 = .ok (.getfield 36, 3) := by decide +kernel
theorem dX3_thrown_4 : decode cX3_thrown 4 = .ok (.ireturn, 1) := by decide +kernel
theorem dX3_refused_0 : decode cX3_refused 0 = .ok (.aload_n 0, 1) := by decide +kernel
theorem dX3_refused_1 : decode cX3_refused 1 = .ok (.iload_n 1, 1) := by decide +kernel
theorem dX3_refused_2 : decode cX3_refused 2 = .ok (.putfield 36, 3) := by decide +kernel
theorem dX3_refused_5 : decode cX3_refused 5 = .ok (.iload_n 1, 1) := by decide +kernel
theorem dX3_refused_6 : decode cX3_refused 6 = .ok (.ifCond .le 7, 3) := by decide +kernel
theorem dX3_refused_9 : decode cX3_refused 9 = .ok (.iconst 1, 1) := by decide +kernel
theorem dX3_refused_10 : decode cX3_refused 10 = .ok (.goto 4, 3) := by decide +kernel
theorem dX3_refused_13 : decode cX3_refused 13 = .ok (.iconst 0, 1) := by decide +kernel
theorem dX3_refused_14 : decode cX3_refused 14 = .ok (.ireturn, 1) := by decide +kernel
theorem dX3_in_0 : decode cX3_in 0 = .ok (.lload_n 0, 1) := by decide +kernel
theorem dX3_in_1 : decode cX3_in 1 = .ok (.lload_n 2, 1) := by decide +kernel
theorem dX3_in_2 : decode cX3_in 2 = .ok (.lcmp, 1) := by decide +kernel
theorem dX3_in_3 : decode cX3_in 3 = .ok (.ifCond .lt 14, 3) := by decide +kernel
theorem dX3_in_6 : decode cX3_in 6 = .ok (.lload_n 0, 1) := by decide +kernel
theorem dX3_in_7 : decode cX3_in 7 = .ok (.lload 4, 2) := by decide +kernel
theorem dX3_in_9 : decode cX3_in 9 = .ok (.lcmp, 1) := by decide +kernel
theorem dX3_in_10 : decode cX3_in 10 = .ok (.ifCond .gt 7, 3) := by decide +kernel
theorem dX3_in_13 : decode cX3_in 13 = .ok (.iconst 1, 1) := by decide +kernel
theorem dX3_in_14 : decode cX3_in 14 = .ok (.goto 4, 3) := by decide +kernel
theorem dX3_in_17 : decode cX3_in 17 = .ok (.iconst 0, 1) := by decide +kernel
theorem dX3_in_18 : decode cX3_in 18 = .ok (.ireturn, 1) := by decide +kernel
theorem dX3_copyState_0 : decode cX3_copyState 0 = .ok (.iconst 0, 1) := by decide +kernel
theorem dX3_copyState_1 : decode cX3_copyState 1 = .ok (.istore 4, 2) := by decide +kernel
theorem dX3_copyState_3 : decode cX3_copyState 3 = .ok (.iload 4, 2) := by decide +kernel
theorem dX3_copyState_5 : decode cX3_copyState 5 = .ok (.bipush 121, 2) := by decide +kernel
theorem dX3_copyState_7 : decode cX3_copyState 7 = .ok (.if_icmp .ge 21, 3) := by decide +kernel
theorem dX3_copyState_10 : decode cX3_copyState 10 = .ok (.aload_n 2, 1) := by decide +kernel
theorem dX3_copyState_11 : decode cX3_copyState 11 = .ok (.iload_n 3, 1) := by decide +kernel
theorem dX3_copyState_12 : decode cX3_copyState 12 = .ok (.iload 4, 2) := by decide +kernel
theorem dX3_copyState_14 : decode cX3_copyState 14 = .ok (.iadd, 1) := by decide +kernel
theorem dX3_copyState_15 : decode cX3_copyState 15 = .ok (.aload_n 0, 1) := by decide +kernel
theorem dX3_copyState_16 : decode cX3_copyState 16 = .ok (.iload_n 1, 1) := by decide +kernel
theorem dX3_copyState_17 : decode cX3_copyState 17 = .ok (.iload 4, 2) := by decide +kernel
theorem dX3_copyState_19 : decode cX3_copyState 19 = .ok (.iadd, 1) := by decide +kernel
theorem dX3_copyState_20 : decode cX3_copyState 20 = .ok (.iaload, 1) := by decide +kernel
theorem dX3_copyState_21 : decode cX3_copyState 21 = .ok (.iastore, 1) := by decide +kernel
theorem dX3_copyState_22 : decode cX3_copyState 22 = .ok (.iinc 4 1, 3) := by decide +kernel
theorem dX3_copyState_25 : decode cX3_copyState 25 = .ok (.goto (-22), 3) := by decide +kernel
theorem dX3_copyState_28 : decode cX3_copyState 28 = .ok (.return_, 1) := by decide +kernel
theorem dX3_clear_0 : decode cX3_clear 0 = .ok (.iconst 0, 1) := by decide +kernel
theorem dX3_clear_1 : decode cX3_clear 1 = .ok (.istore_n 1, 1) := by decide +kernel
theorem dX3_clear_2 : decode cX3_clear 2 = .ok (.iload_n 1, 1) := by decide +kernel
theorem dX3_clear_3 : decode cX3_clear 3 = .ok (.bipush 121, 2) := by decide +kernel
theorem dX3_clear_5 : decode cX3_clear 5 = .ok (.if_icmp .ge 13, 3) := by decide +kernel
theorem dX3_clear_8 : decode cX3_clear 8 = .ok (.aload_n 0, 1) := by decide +kernel
theorem dX3_clear_9 : decode cX3_clear 9 = .ok (.iload_n 1, 1) := by decide +kernel
theorem dX3_clear_10 : decode cX3_clear 10 = .ok (.iconst 0, 1) := by decide +kernel
theorem dX3_clear_11 : decode cX3_clear 11 = .ok (.iastore, 1) := by decide +kernel
theorem dX3_clear_12 : decode cX3_clear 12 = .ok (.iinc 1 1, 3) := by decide +kernel
theorem dX3_clear_15 : decode cX3_clear 15 = .ok (.goto (-13), 3) := by decide +kernel
theorem dX3_clear_18 : decode cX3_clear 18 = .ok (.aload_n 0, 1) := by decide +kernel
theorem dX3_clear_19 : decode cX3_clear 19 = .ok (.bipush 7, 2) := by decide +kernel
theorem dX3_clear_21 : decode cX3_clear 21 = .ok (.iconst 3, 1) := by decide +kernel
theorem dX3_clear_22 : decode cX3_clear 22 = .ok (.iastore, 1) := by decide +kernel
theorem dX3_clear_23 : decode cX3_clear 23 = .ok (.aload_n 0, 1) := by decide +kernel
theorem dX3_clear_24 : decode cX3_clear 24 = .ok (.bipush 8, 2) := by decide +kernel
theorem dX3_clear_26 : decode cX3_clear 26 = .ok (.bipush 12, 2) := by decide +kernel
theorem dX3_clear_28 : decode cX3_clear 28 = .ok (.iastore, 1) := by decide +kernel
theorem dX3_clear_29 : decode cX3_clear 29 = .ok (.aload_n 0, 1) := by decide +kernel
theorem dX3_clear_30 : decode cX3_clear 30 = .ok (.bipush 9, 2) := by decide +kernel
theorem dX3_clear_32 : decode cX3_clear 32 = .ok (.iconst 2, 1) := by decide +kernel
theorem dX3_clear_33 : decode cX3_clear 33 = .ok (.iastore, 1) := by decide +kernel
theorem dX3_clear_34 : decode cX3_clear 34 = .ok (.return_, 1) := by decide +kernel
theorem dX3_isLane_0 : decode cX3_isLane 0 = .ok (.iload_n 1, 1) := by decide +kernel
theorem dX3_isLane_1 : decode cX3_isLane 1 = .ok (.i2l, 1) := by decide +kernel
theorem dX3_isLane_2 : decode cX3_isLane 2 = .ok (.lconst 0, 1) := by decide +kernel
theorem dX3_isLane_3 : decode cX3_isLane 3 = .ok (.aload_n 0, 1) := by decide +kernel
theorem dX3_isLane_4 : decode cX3_isLane 4 = .ok (.iconst 0, 1) := by decide +kernel
theorem dX3_isLane_5 : decode cX3_isLane 5 = .ok (.iaload, 1) := by decide +kernel
theorem dX3_isLane_6 : decode cX3_isLane 6 = .ok (.iconst 1, 1) := by decide +kernel
theorem dX3_isLane_7 : decode cX3_isLane 7 = .ok (.isub, 1) := by decide +kernel
theorem dX3_isLane_8 : decode cX3_isLane 8 = .ok (.i2l, 1) := by decide +kernel
theorem dX3_isLane_9 : decode cX3_isLane 9 = .ok (.invokestatic 40, 3) := by decide +kernel
theorem dX3_isLane_12 : decode cX3_isLane 12 = .ok (.ireturn, 1) := by decide +kernel
theorem dX3_isVehicle_0 : decode cX3_isVehicle 0 = .ok (.aload_n 0, 1) := by decide +kernel
theorem dX3_isVehicle_1 : decode cX3_isVehicle 1 = .ok (.iload_n 1, 1) := by decide +kernel
theorem dX3_isVehicle_2 : decode cX3_isVehicle 2 = .ok (.invokestatic 44, 3) := by decide +kernel
theorem dX3_isVehicle_5 : decode cX3_isVehicle 5 = .ok (.ifCond .eq 25, 3) := by decide +kernel
theorem dX3_isVehicle_8 : decode cX3_isVehicle 8 = .ok (.iload_n 2, 1) := by decide +kernel
theorem dX3_isVehicle_9 : decode cX3_isVehicle 9 = .ok (.i2l, 1) := by decide +kernel
theorem dX3_isVehicle_10 : decode cX3_isVehicle 10 = .ok (.lconst 0, 1) := by decide +kernel
theorem dX3_isVehicle_11 : decode cX3_isVehicle 11 = .ok (.aload_n 0, 1) := by decide +kernel
theorem dX3_isVehicle_12 : decode cX3_isVehicle 12 = .ok (.iload_n 1, 1) := by decide +kernel
theorem dX3_isVehicle_13 : decode cX3_isVehicle 13 = .ok (.iconst 0, 1) := by decide +kernel
theorem dX3_isVehicle_14 : decode cX3_isVehicle 14 = .ok (.invokestatic 48, 3) := by decide +kernel
theorem dX3_isVehicle_17 : decode cX3_isVehicle 17 = .ok (.iconst 1, 1) := by decide +kernel
theorem dX3_isVehicle_18 : decode cX3_isVehicle 18 = .ok (.isub, 1) := by decide +kernel
theorem dX3_isVehicle_19 : decode cX3_isVehicle 19 = .ok (.i2l, 1) := by decide +kernel
theorem dX3_isVehicle_20 : decode cX3_isVehicle 20 = .ok (.invokestatic 40, 3) := by decide +kernel
theorem dX3_isVehicle_23 : decode cX3_isVehicle 23 = .ok (.ifCond .eq 7, 3) := by decide +kernel
theorem dX3_isVehicle_26 : decode cX3_isVehicle 26 = .ok (.iconst 1, 1) := by decide +kernel
theorem dX3_isVehicle_27 : decode cX3_isVehicle 27 = .ok (.goto 4, 3) := by decide +kernel
theorem dX3_isVehicle_30 : decode cX3_isVehicle 30 = .ok (.iconst 0, 1) := by decide +kernel
theorem dX3_isVehicle_31 : decode cX3_isVehicle 31 = .ok (.ireturn, 1) := by decide +kernel
theorem dX3_of_0 : decode cX3_of 0 = .ok (.aload_n 0, 1) := by decide +kernel
theorem dX3_of_1 : decode cX3_of 1 = .ok (.bipush 10, 2) := by decide +kernel
theorem dX3_of_3 : decode cX3_of 3 = .ok (.bipush 37, 2) := by decide +kernel
theorem dX3_of_5 : decode cX3_of 5 = .ok (.iload_n 1, 1) := by decide +kernel
theorem dX3_of_6 : decode cX3_of 6 = .ok (.imul, 1) := by decide +kernel
theorem dX3_of_7 : decode cX3_of 7 = .ok (.iadd, 1) := by decide +kernel
theorem dX3_of_8 : decode cX3_of 8 = .ok (.iload_n 2, 1) := by decide +kernel
theorem dX3_of_9 : decode cX3_of 9 = .ok (.iadd, 1) := by decide +kernel
theorem dX3_of_10 : decode cX3_of 10 = .ok (.iaload, 1) := by decide +kernel
theorem dX3_of_11 : decode cX3_of 11 = .ok (.ireturn, 1) := by decide +kernel
theorem dX3_lay_0 : decode cX3_lay 0 = .ok (.aload_n 0, 1) := by decide +kernel
theorem dX3_lay_1 : decode cX3_lay 1 = .ok (.bipush 10, 2) := by decide +kernel
theorem dX3_lay_3 : decode cX3_lay 3 = .ok (.bipush 37, 2) := by decide +kernel
theorem dX3_lay_5 : decode cX3_lay 5 = .ok (.iload_n 1, 1) := by decide +kernel
theorem dX3_lay_6 : decode cX3_lay 6 = .ok (.imul, 1) := by decide +kernel
theorem dX3_lay_7 : decode cX3_lay 7 = .ok (.iadd, 1) := by decide +kernel
theorem dX3_lay_8 : decode cX3_lay 8 = .ok (.iload_n 2, 1) := by decide +kernel
theorem dX3_lay_9 : decode cX3_lay 9 = .ok (.iadd, 1) := by decide +kernel
theorem dX3_lay_10 : decode cX3_lay 10 = .ok (.iload_n 3, 1) := by decide +kernel
theorem dX3_lay_11 : decode cX3_lay 11 = .ok (.iastore, 1) := by decide +kernel
theorem dX3_lay_12 : decode cX3_lay 12 = .ok (.return_, 1) := by decide +kernel
theorem dX3_place_0 : decode cX3_place 0 = .ok (.bipush 7, 2) := by decide +kernel
theorem dX3_place_2 : decode cX3_place 2 = .ok (.iconst 5, 1) := by decide +kernel
theorem dX3_place_3 : decode cX3_place 3 = .ok (.iload_n 0, 1) := by decide +kernel
theorem dX3_place_4 : decode cX3_place 4 = .ok (.imul, 1) := by decide +kernel
theorem dX3_place_5 : decode cX3_place 5 = .ok (.iadd, 1) := by decide +kernel
theorem dX3_place_6 : decode cX3_place 6 = .ok (.iload_n 1, 1) := by decide +kernel
theorem dX3_place_7 : decode cX3_place 7 = .ok (.iadd, 1) := by decide +kernel
theorem dX3_place_8 : decode cX3_place 8 = .ok (.ireturn, 1) := by decide +kernel
theorem dX3_told_0 : decode cX3_told 0 = .ok (.aload_n 0, 1) := by decide +kernel
theorem dX3_told_1 : decode cX3_told 1 = .ok (.iload_n 1, 1) := by decide +kernel
theorem dX3_told_2 : decode cX3_told 2 = .ok (.iload_n 2, 1) := by decide +kernel
theorem dX3_told_3 : decode cX3_told 3 = .ok (.iload_n 3, 1) := by decide +kernel
theorem dX3_told_4 : decode cX3_told 4 = .ok (.invokestatic 52, 3) := by decide +kernel
theorem dX3_told_7 : decode cX3_told 7 = .ok (.invokestatic 48, 3) := by decide +kernel
theorem dX3_told_10 : decode cX3_told 10 = .ok (.ireturn, 1) := by decide +kernel
theorem dX3_last_0 : decode cX3_last 0 = .ok (.aload_n 0, 1) := by decide +kernel
theorem dX3_last_1 : decode cX3_last 1 = .ok (.iload_n 1, 1) := by decide +kernel
theorem dX3_last_2 : decode cX3_last 2 = .ok (.iload_n 2, 1) := by decide +kernel
theorem dX3_last_3 : decode cX3_last 3 = .ok (.iconst 1, 1) := by decide +kernel
theorem dX3_last_4 : decode cX3_last 4 = .ok (.invokestatic 56, 3) := by decide +kernel
theorem dX3_last_7 : decode cX3_last 7 = .ok (.aload_n 0, 1) := by decide +kernel
theorem dX3_last_8 : decode cX3_last 8 = .ok (.iload_n 1, 1) := by decide +kernel
theorem dX3_last_9 : decode cX3_last 9 = .ok (.iload_n 2, 1) := by decide +kernel
theorem dX3_last_10 : decode cX3_last 10 = .ok (.iconst 0, 1) := by decide +kernel
theorem dX3_last_11 : decode cX3_last 11 = .ok (.invokestatic 56, 3) := by decide +kernel
theorem dX3_last_14 : decode cX3_last 14 = .ok (.isub, 1) := by decide +kernel
theorem dX3_last_15 : decode cX3_last 15 = .ok (.iconst 1, 1) := by decide +kernel
theorem dX3_last_16 : decode cX3_last 16 = .ok (.iadd, 1) := by decide +kernel
theorem dX3_last_17 : decode cX3_last 17 = .ok (.ireturn, 1) := by decide +kernel
theorem dX3_covers_0 : decode cX3_covers 0 = .ok (.iload_n 3, 1) := by decide +kernel
theorem dX3_covers_1 : decode cX3_covers 1 = .ok (.aload_n 0, 1) := by decide +kernel
theorem dX3_covers_2 : decode cX3_covers 2 = .ok (.iload_n 1, 1) := by decide +kernel
theorem dX3_covers_3 : decode cX3_covers 3 = .ok (.iload_n 2, 1) := by decide +kernel
theorem dX3_covers_4 : decode cX3_covers 4 = .ok (.iconst 1, 1) := by decide +kernel
theorem dX3_covers_5 : decode cX3_covers 5 = .ok (.invokestatic 56, 3) := by decide +kernel
theorem dX3_covers_8 : decode cX3_covers 8 = .ok (.if_icmp .gt 17, 3) := by decide +kernel
theorem dX3_covers_11 : decode cX3_covers 11 = .ok (.iload_n 3, 1) := by decide +kernel
theorem dX3_covers_12 : decode cX3_covers 12 = .ok (.aload_n 0, 1) := by decide +kernel
theorem dX3_covers_13 : decode cX3_covers 13 = .ok (.iload_n 1, 1) := by decide +kernel
theorem dX3_covers_14 : decode cX3_covers 14 = .ok (.iload_n 2, 1) := by decide +kernel
theorem dX3_covers_15 : decode cX3_covers 15 = .ok (.invokestatic 60, 3) := by decide +kernel
theorem dX3_covers_18 : decode cX3_covers 18 = .ok (.if_icmp .lt 7, 3) := by decide +kernel
theorem dX3_covers_21 : decode cX3_covers 21 = .ok (.iconst 1, 1) := by decide +kernel
theorem dX3_covers_22 : decode cX3_covers 22 = .ok (.goto 4, 3) := by decide +kernel
theorem dX3_covers_25 : decode cX3_covers 25 = .ok (.iconst 0, 1) := by decide +kernel
theorem dX3_covers_26 : decode cX3_covers 26 = .ok (.ireturn, 1) := by decide +kernel
theorem dX3_isCovered_0 : decode cX3_isCovered 0 = .ok (.iconst 0, 1) := by decide +kernel
theorem dX3_isCovered_1 : decode cX3_isCovered 1 = .ok (.istore_n 2, 1) := by decide +kernel
theorem dX3_isCovered_2 : decode cX3_isCovered 2 = .ok (.iload_n 2, 1) := by decide +kernel
theorem dX3_isCovered_3 : decode cX3_isCovered 3 = .ok (.aload_n 0, 1) := by decide +kernel
theorem dX3_isCovered_4 : decode cX3_isCovered 4 = .ok (.iload_n 1, 1) := by decide +kernel
theorem dX3_isCovered_5 : decode cX3_isCovered 5 = .ok (.iconst 0, 1) := by decide +kernel
theorem dX3_isCovered_6 : decode cX3_isCovered 6 = .ok (.invokestatic 48, 3) := by decide +kernel
theorem dX3_isCovered_9 : decode cX3_isCovered 9 = .ok (.if_icmp .ge 22, 3) := by decide +kernel
theorem dX3_isCovered_12 : decode cX3_isCovered 12 = .ok (.aload_n 0, 1) := by decide +kernel
theorem dX3_isCovered_13 : decode cX3_isCovered 13 = .ok (.iload_n 1, 1) := by decide +kernel
theorem dX3_isCovered_14 : decode cX3_isCovered 14 = .ok (.iload_n 2, 1) := by decide +kernel
theorem dX3_isCovered_15 : decode cX3_isCovered 15 = .ok (.bipush 20, 2) := by decide +kernel
theorem dX3_isCovered_17 : decode cX3_isCovered 17 = .ok (.invokestatic 63, 3) := by decide +kernel
theorem dX3_isCovered_20 : decode cX3_isCovered 20 = .ok (.ifCond .eq 5, 3) := by decide +kernel
theorem dX3_isCovered_23 : decode cX3_isCovered 23 = .ok (.iconst 1, 1) := by decide +kernel
theorem dX3_isCovered_24 : decode cX3_isCovered 24 = .ok (.ireturn, 1) := by decide +kernel
theorem dX3_isCovered_25 : decode cX3_isCovered 25 = .ok (.iinc 2 1, 3) := by decide +kernel
theorem dX3_isCovered_28 : decode cX3_isCovered 28 = .ok (.goto (-26), 3) := by decide +kernel
theorem dX3_isCovered_31 : decode cX3_isCovered 31 = .ok (.iconst 0, 1) := by decide +kernel
theorem dX3_isCovered_32 : decode cX3_isCovered 32 = .ok (.ireturn, 1) := by decide +kernel
theorem dX3_canMove_0 : decode cX3_canMove 0 = .ok (.aload_n 0, 1) := by decide +kernel
theorem dX3_canMove_1 : decode cX3_canMove 1 = .ok (.iload_n 1, 1) := by decide +kernel
theorem dX3_canMove_2 : decode cX3_canMove 2 = .ok (.iload_n 2, 1) := by decide +kernel
theorem dX3_canMove_3 : decode cX3_canMove 3 = .ok (.iconst 1, 1) := by decide +kernel
theorem dX3_canMove_4 : decode cX3_canMove 4 = .ok (.invokestatic 56, 3) := by decide +kernel
theorem dX3_canMove_7 : decode cX3_canMove 7 = .ok (.istore_n 3, 1) := by decide +kernel
theorem dX3_canMove_8 : decode cX3_canMove 8 = .ok (.iload_n 2, 1) := by decide +kernel
theorem dX3_canMove_9 : decode cX3_canMove 9 = .ok (.ifCond .le 19, 3) := by decide +kernel
theorem dX3_canMove_12 : decode cX3_canMove 12 = .ok (.aload_n 0, 1) := by decide +kernel
theorem dX3_canMove_13 : decode cX3_canMove 13 = .ok (.iload_n 1, 1) := by decide +kernel
theorem dX3_canMove_14 : decode cX3_canMove 14 = .ok (.iload_n 2, 1) := by decide +kernel
theorem dX3_canMove_15 : decode cX3_canMove 15 = .ok (.iconst 1, 1) := by decide +kernel
theorem dX3_canMove_16 : decode cX3_canMove 16 = .ok (.isub, 1) := by decide +kernel
theorem dX3_canMove_17 : decode cX3_canMove 17 = .ok (.invokestatic 60, 3) := by decide +kernel
theorem dX3_canMove_20 : decode cX3_canMove 20 = .ok (.iload_n 3, 1) := by decide +kernel
theorem dX3_canMove_21 : decode cX3_canMove 21 = .ok (.iconst 2, 1) := by decide +kernel
theorem dX3_canMove_22 : decode cX3_canMove 22 = .ok (.iadd, 1) := by decide +kernel
theorem dX3_canMove_23 : decode cX3_canMove 23 = .ok (.if_icmp .ge 5, 3) := by decide +kernel
theorem dX3_canMove_26 : decode cX3_canMove 26 = .ok (.iconst 0, 1) := by decide +kernel
theorem dX3_canMove_27 : decode cX3_canMove 27 = .ok (.ireturn, 1) := by decide +kernel
theorem dX3_canMove_28 : decode cX3_canMove 28 = .ok (.iload_n 3, 1) := by decide +kernel
theorem dX3_canMove_29 : decode cX3_canMove 29 = .ok (.bipush 19, 2) := by decide +kernel
theorem dX3_canMove_31 : decode cX3_canMove 31 = .ok (.if_icmp .ne 35, 3) := by decide +kernel
theorem dX3_canMove_34 : decode cX3_canMove 34 = .ok (.aload_n 0, 1) := by decide +kernel
theorem dX3_canMove_35 : decode cX3_canMove 35 = .ok (.iload_n 1, 1) := by decide +kernel
theorem dX3_canMove_36 : decode cX3_canMove 36 = .ok (.iconst 1, 1) := by decide +kernel
theorem dX3_canMove_37 : decode cX3_canMove 37 = .ok (.invokestatic 48, 3) := by decide +kernel
theorem dX3_canMove_40 : decode cX3_canMove 40 = .ok (.iconst 4, 1) := by decide +kernel
theorem dX3_canMove_41 : decode cX3_canMove 41 = .ok (.if_icmp .ne 29, 3) := by decide +kernel
theorem dX3_canMove_44 : decode cX3_canMove 44 = .ok (.aload_n 0, 1) := by decide +kernel
theorem dX3_canMove_45 : decode cX3_canMove 45 = .ok (.iload_n 1, 1) := by decide +kernel
theorem dX3_canMove_46 : decode cX3_canMove 46 = .ok (.iload_n 2, 1) := by decide +kernel
theorem dX3_canMove_47 : decode cX3_canMove 47 = .ok (.iconst 4, 1) := by decide +kernel
theorem dX3_canMove_48 : decode cX3_canMove 48 = .ok (.invokestatic 56, 3) := by decide +kernel
theorem dX3_canMove_51 : decode cX3_canMove 51 = .ok (.iconst 1, 1) := by decide +kernel
theorem dX3_canMove_52 : decode cX3_canMove 52 = .ok (.if_icmp .eq 14, 3) := by decide +kernel
theorem dX3_canMove_55 : decode cX3_canMove 55 = .ok (.aload_n 0, 1) := by decide +kernel
theorem dX3_canMove_56 : decode cX3_canMove 56 = .ok (.iload_n 1, 1) := by decide +kernel
theorem dX3_canMove_57 : decode cX3_canMove 57 = .ok (.iload_n 2, 1) := by decide +kernel
theorem dX3_canMove_58 : decode cX3_canMove 58 = .ok (.iconst 3, 1) := by decide +kernel
theorem dX3_canMove_59 : decode cX3_canMove 59 = .ok (.invokestatic 56, 3) := by decide +kernel
theorem dX3_canMove_62 : decode cX3_canMove 62 = .ok (.iconst 1, 1) := by decide +kernel
theorem dX3_canMove_63 : decode cX3_canMove 63 = .ok (.if_icmp .ne 7, 3) := by decide +kernel
theorem dX3_canMove_66 : decode cX3_canMove 66 = .ok (.iconst 1, 1) := by decide +kernel
theorem dX3_canMove_67 : decode cX3_canMove 67 = .ok (.goto 4, 3) := by decide +kernel
theorem dX3_canMove_70 : decode cX3_canMove 70 = .ok (.iconst 0, 1) := by decide +kernel
theorem dX3_canMove_71 : decode cX3_canMove 71 = .ok (.ireturn, 1) := by decide +kernel
theorem dX3_dropFirst_0 : decode cX3_dropFirst 0 = .ok (.aload_n 0, 1) := by decide +kernel
theorem dX3_dropFirst_1 : decode cX3_dropFirst 1 = .ok (.iload_n 1, 1) := by decide +kernel
theorem dX3_dropFirst_2 : decode cX3_dropFirst 2 = .ok (.iconst 0, 1) := by decide +kernel
theorem dX3_dropFirst_3 : decode cX3_dropFirst 3 = .ok (.aload_n 0, 1) := by decide +kernel
theorem dX3_dropFirst_4 : decode cX3_dropFirst 4 = .ok (.iload_n 1, 1) := by decide +kernel
theorem dX3_dropFirst_5 : decode cX3_dropFirst 5 = .ok (.iconst 0, 1) := by decide +kernel
theorem dX3_dropFirst_6 : decode cX3_dropFirst 6 = .ok (.invokestatic 48, 3) := by decide +kernel
theorem dX3_dropFirst_9 : decode cX3_dropFirst 9 = .ok (.iconst 1, 1) := by decide +kernel
theorem dX3_dropFirst_10 : decode cX3_dropFirst 10 = .ok (.isub, 1) := by decide +kernel
theorem dX3_dropFirst_11 : decode cX3_dropFirst 11 = .ok (.invokestatic 67, 3) := by decide +kernel
theorem dX3_dropFirst_14 : decode cX3_dropFirst 14 = .ok (.bipush 7, 2) := by decide +kernel
theorem dX3_dropFirst_16 : decode cX3_dropFirst 16 = .ok (.istore_n 2, 1) := by decide +kernel
theorem dX3_dropFirst_17 : decode cX3_dropFirst 17 = .ok (.iload_n 2, 1) := by decide +kernel
theorem dX3_dropFirst_18 : decode cX3_dropFirst 18 = .ok (.bipush 7, 2) := by decide +kernel
theorem dX3_dropFirst_20 : decode cX3_dropFirst 20 = .ok (.iconst 5, 1) := by decide +kernel
theorem dX3_dropFirst_21 : decode cX3_dropFirst 21 = .ok (.aload_n 0, 1) := by decide +kernel
theorem dX3_dropFirst_22 : decode cX3_dropFirst 22 = .ok (.iload_n 1, 1) := by decide +kernel
theorem dX3_dropFirst_23 : decode cX3_dropFirst 23 = .ok (.iconst 0, 1) := by decide +kernel
theorem dX3_dropFirst_24 : decode cX3_dropFirst 24 = .ok (.invokestatic 48, 3) := by decide +kernel
theorem dX3_dropFirst_27 : decode cX3_dropFirst 27 = .ok (.imul, 1) := by decide +kernel
theorem dX3_dropFirst_28 : decode cX3_dropFirst 28 = .ok (.iadd, 1) := by decide +kernel
theorem dX3_dropFirst_29 : decode cX3_dropFirst 29 = .ok (.if_icmp .ge 23, 3) := by decide +kernel
theorem dX3_dropFirst_32 : decode cX3_dropFirst 32 = .ok (.aload_n 0, 1) := by decide +kernel
theorem dX3_dropFirst_33 : decode cX3_dropFirst 33 = .ok (.iload_n 1, 1) := by decide +kernel
theorem dX3_dropFirst_34 : decode cX3_dropFirst 34 = .ok (.iload_n 2, 1) := by decide +kernel
theorem dX3_dropFirst_35 : decode cX3_dropFirst 35 = .ok (.aload_n 0, 1) := by decide +kernel
theorem dX3_dropFirst_36 : decode cX3_dropFirst 36 = .ok (.iload_n 1, 1) := by decide +kernel
theorem dX3_dropFirst_37 : decode cX3_dropFirst 37 = .ok (.iload_n 2, 1) := by decide +kernel
theorem dX3_dropFirst_38 : decode cX3_dropFirst 38 = .ok (.iconst 5, 1) := by decide +kernel
theorem dX3_dropFirst_39 : decode cX3_dropFirst 39 = .ok (.iadd, 1) := by decide +kernel
theorem dX3_dropFirst_40 : decode cX3_dropFirst 40 = .ok (.invokestatic 48, 3) := by decide +kernel
theorem dX3_dropFirst_43 : decode cX3_dropFirst 43 = .ok (.invokestatic 67, 3) := by decide +kernel
theorem dX3_dropFirst_46 : decode cX3_dropFirst 46 = .ok (.iinc 2 1, 3) := by decide +kernel
theorem dX3_dropFirst_49 : decode cX3_dropFirst 49 = .ok (.goto (-32), 3) := by decide +kernel
theorem dX3_dropFirst_52 : decode cX3_dropFirst 52 = .ok (.return_, 1) := by decide +kernel
theorem dX3_moveAll_0 : decode cX3_moveAll 0 = .ok (.iconst 0, 1) := by decide +kernel
theorem dX3_moveAll_1 : decode cX3_moveAll 1 = .ok (.istore_n 3, 1) := by decide +kernel
theorem dX3_moveAll_2 : decode cX3_moveAll 2 = .ok (.iload_n 3, 1) := by decide +kernel
theorem dX3_moveAll_3 : decode cX3_moveAll 3 = .ok (.aload_n 1, 1) := by decide +kernel
theorem dX3_moveAll_4 : decode cX3_moveAll 4 = .ok (.iload_n 2, 1) := by decide +kernel
theorem dX3_moveAll_5 : decode cX3_moveAll 5 = .ok (.iconst 0, 1) := by decide +kernel
theorem dX3_moveAll_6 : decode cX3_moveAll 6 = .ok (.invokestatic 48, 3) := by decide +kernel
theorem dX3_moveAll_9 : decode cX3_moveAll 9 = .ok (.if_icmp .ge 53, 3) := by decide +kernel
theorem dX3_moveAll_12 : decode cX3_moveAll 12 = .ok (.aload_n 0, 1) := by decide +kernel
theorem dX3_moveAll_13 : decode cX3_moveAll 13 = .ok (.getfield 29, 3) := by decide +kernel
theorem dX3_moveAll_16 : decode cX3_moveAll 16 = .ok (.iload_n 3, 1) := by decide +kernel
theorem dX3_moveAll_17 : decode cX3_moveAll 17 = .ok (.aload_n 1, 1) := by decide +kernel
theorem dX3_moveAll_18 : decode cX3_moveAll 18 = .ok (.iload_n 2, 1) := by decide +kernel
theorem dX3_moveAll_19 : decode cX3_moveAll 19 = .ok (.iload_n 3, 1) := by decide +kernel
theorem dX3_moveAll_20 : decode cX3_moveAll 20 = .ok (.invokestatic 71, 3) := by decide +kernel
theorem dX3_moveAll_23 : decode cX3_moveAll 23 = .ok (.bastore, 1) := by decide +kernel
theorem dX3_moveAll_24 : decode cX3_moveAll 24 = .ok (.aload_n 1, 1) := by decide +kernel
theorem dX3_moveAll_25 : decode cX3_moveAll 25 = .ok (.iload_n 2, 1) := by decide +kernel
theorem dX3_moveAll_26 : decode cX3_moveAll 26 = .ok (.iload_n 3, 1) := by decide +kernel
theorem dX3_moveAll_27 : decode cX3_moveAll 27 = .ok (.iconst 1, 1) := by decide +kernel
theorem dX3_moveAll_28 : decode cX3_moveAll 28 = .ok (.invokestatic 52, 3) := by decide +kernel
theorem dX3_moveAll_31 : decode cX3_moveAll 31 = .ok (.aload_n 1, 1) := by decide +kernel
theorem dX3_moveAll_32 : decode cX3_moveAll 32 = .ok (.iload_n 2, 1) := by decide +kernel
theorem dX3_moveAll_33 : decode cX3_moveAll 33 = .ok (.iload_n 3, 1) := by decide +kernel
theorem dX3_moveAll_34 : decode cX3_moveAll 34 = .ok (.iconst 1, 1) := by decide +kernel
theorem dX3_moveAll_35 : decode cX3_moveAll 35 = .ok (.invokestatic 56, 3) := by decide +kernel
theorem dX3_moveAll_38 : decode cX3_moveAll 38 = .ok (.aload_n 0, 1) := by decide +kernel
theorem dX3_moveAll_39 : decode cX3_moveAll 39 = .ok (.getfield 29, 3) := by decide +kernel
theorem dX3_moveAll_42 : decode cX3_moveAll 42 = .ok (.iload_n 3, 1) := by decide +kernel
theorem dX3_moveAll_43 : decode cX3_moveAll 43 = .ok (.baload, 1) := by decide +kernel
theorem dX3_moveAll_44 : decode cX3_moveAll 44 = .ok (.ifCond .eq 7, 3) := by decide +kernel
theorem dX3_moveAll_47 : decode cX3_moveAll 47 = .ok (.iconst 1, 1) := by decide +kernel
theorem dX3_moveAll_48 : decode cX3_moveAll 48 = .ok (.goto 4, 3) := by decide +kernel
theorem dX3_moveAll_51 : decode cX3_moveAll 51 = .ok (.iconst 0, 1) := by decide +kernel
theorem dX3_moveAll_52 : decode cX3_moveAll 52 = .ok (.iadd, 1) := by decide +kernel
theorem dX3_moveAll_53 : decode cX3_moveAll 53 = .ok (.invokestatic 67, 3) := by decide +kernel
theorem dX3_moveAll_56 : decode cX3_moveAll 56 = .ok (.iinc 3 1, 3) := by decide +kernel
theorem dX3_moveAll_59 : decode cX3_moveAll 59 = .ok (.goto (-57), 3) := by decide +kernel
theorem dX3_moveAll_62 : decode cX3_moveAll 62 = .ok (.aload_n 1, 1) := by decide +kernel
theorem dX3_moveAll_63 : decode cX3_moveAll 63 = .ok (.iload_n 2, 1) := by decide +kernel
theorem dX3_moveAll_64 : decode cX3_moveAll 64 = .ok (.iconst 0, 1) := by decide +kernel
theorem dX3_moveAll_65 : decode cX3_moveAll 65 = .ok (.invokestatic 48, 3) := by decide +kernel
theorem dX3_moveAll_68 : decode cX3_moveAll 68 = .ok (.ifCond .le 58, 3) := by decide +kernel
theorem dX3_moveAll_71 : decode cX3_moveAll 71 = .ok (.aload_n 1, 1) := by decide +kernel
theorem dX3_moveAll_72 : decode cX3_moveAll 72 = .ok (.iload_n 2, 1) := by decide +kernel
theorem dX3_moveAll_73 : decode cX3_moveAll 73 = .ok (.iconst 0, 1) := by decide +kernel
theorem dX3_moveAll_74 : decode cX3_moveAll 74 = .ok (.invokestatic 60, 3) := by decide +kernel
theorem dX3_moveAll_77 : decode cX3_moveAll 77 = .ok (.bipush 39, 2) := by decide +kernel
theorem dX3_moveAll_79 : decode cX3_moveAll 79 = .ok (.if_icmp .le 47, 3) := by decide +kernel
theorem dX3_moveAll_82 : decode cX3_moveAll 82 = .ok (.aload_n 1, 1) := by decide +kernel
theorem dX3_moveAll_83 : decode cX3_moveAll 83 = .ok (.iload_n 2, 1) := by decide +kernel
theorem dX3_moveAll_84 : decode cX3_moveAll 84 = .ok (.invokestatic 75, 3) := by decide +kernel
theorem dX3_moveAll_87 : decode cX3_moveAll 87 = .ok (.aload_n 1, 1) := by decide +kernel
theorem dX3_moveAll_88 : decode cX3_moveAll 88 = .ok (.iconst 2, 1) := by decide +kernel
theorem dX3_moveAll_89 : decode cX3_moveAll 89 = .ok (.dup2, 1) := by decide +kernel
theorem dX3_moveAll_90 : decode cX3_moveAll 90 = .ok (.iaload, 1) := by decide +kernel
theorem dX3_moveAll_91 : decode cX3_moveAll 91 = .ok (.iconst 1, 1) := by decide +kernel
theorem dX3_moveAll_92 : decode cX3_moveAll 92 = .ok (.iadd, 1) := by decide +kernel
theorem dX3_moveAll_93 : decode cX3_moveAll 93 = .ok (.iastore, 1) := by decide +kernel
theorem dX3_moveAll_94 : decode cX3_moveAll 94 = .ok (.iconst 0, 1) := by decide +kernel
theorem dX3_moveAll_95 : decode cX3_moveAll 95 = .ok (.istore_n 3, 1) := by decide +kernel
theorem dX3_moveAll_96 : decode cX3_moveAll 96 = .ok (.iload_n 3, 1) := by decide +kernel
theorem dX3_moveAll_97 : decode cX3_moveAll 97 = .ok (.aload_n 1, 1) := by decide +kernel
theorem dX3_moveAll_98 : decode cX3_moveAll 98 = .ok (.iload_n 2, 1) := by decide +kernel
theorem dX3_moveAll_99 : decode cX3_moveAll 99 = .ok (.iconst 0, 1) := by decide +kernel
theorem dX3_moveAll_100 : decode cX3_moveAll 100 = .ok (.invokestatic 48, 3) := by decide +kernel
theorem dX3_moveAll_103 : decode cX3_moveAll 103 = .ok (.if_icmp .ge 23, 3) := by decide +kernel
theorem dX3_moveAll_106 : decode cX3_moveAll 106 = .ok (.aload_n 0, 1) := by decide +kernel
theorem dX3_moveAll_107 : decode cX3_moveAll 107 = .ok (.getfield 29, 3) := by decide +kernel
theorem dX3_moveAll_110 : decode cX3_moveAll 110 = .ok (.iload_n 3, 1) := by decide +kernel
theorem dX3_moveAll_111 : decode cX3_moveAll 111 = .ok (.aload_n 0, 1) := by decide +kernel
theorem dX3_moveAll_112 : decode cX3_moveAll 112 = .ok (.getfield 29, 3) := by decide +kernel
theorem dX3_moveAll_115 : decode cX3_moveAll 115 = .ok (.iload_n 3, 1) := by decide +kernel
theorem dX3_moveAll_116 : decode cX3_moveAll 116 = .ok (.iconst 1, 1) := by decide +kernel
theorem dX3_moveAll_117 : decode cX3_moveAll 117 = .ok (.iadd, 1) := by decide +kernel
theorem dX3_moveAll_118 : decode cX3_moveAll 118 = .ok (.baload, 1) := by decide +kernel
theorem dX3_moveAll_119 : decode cX3_moveAll 119 = .ok (.bastore, 1) := by decide +kernel
theorem dX3_moveAll_120 : decode cX3_moveAll 120 = .ok (.iinc 3 1, 3) := by decide +kernel
theorem dX3_moveAll_123 : decode cX3_moveAll 123 = .ok (.goto (-27), 3) := by decide +kernel
theorem dX3_moveAll_126 : decode cX3_moveAll 126 = .ok (.return_, 1) := by decide +kernel
theorem dX3_checked_0 : decode cX3_checked 0 = .ok (.iconst 0, 1) := by decide +kernel
theorem dX3_checked_1 : decode cX3_checked 1 = .ok (.istore_n 2, 1) := by decide +kernel
theorem dX3_checked_2 : decode cX3_checked 2 = .ok (.iload_n 2, 1) := by decide +kernel
theorem dX3_checked_3 : decode cX3_checked 3 = .ok (.aload_n 0, 1) := by decide +kernel
theorem dX3_checked_4 : decode cX3_checked 4 = .ok (.iload_n 1, 1) := by decide +kernel
theorem dX3_checked_5 : decode cX3_checked 5 = .ok (.iconst 0, 1) := by decide +kernel
theorem dX3_checked_6 : decode cX3_checked 6 = .ok (.invokestatic 48, 3) := by decide +kernel
theorem dX3_checked_9 : decode cX3_checked 9 = .ok (.if_icmp .ge 33, 3) := by decide +kernel
theorem dX3_checked_12 : decode cX3_checked 12 = .ok (.aload_n 0, 1) := by decide +kernel
theorem dX3_checked_13 : decode cX3_checked 13 = .ok (.iload_n 1, 1) := by decide +kernel
theorem dX3_checked_14 : decode cX3_checked 14 = .ok (.iload_n 2, 1) := by decide +kernel
theorem dX3_checked_15 : decode cX3_checked 15 = .ok (.iconst 4, 1) := by decide +kernel
theorem dX3_checked_16 : decode cX3_checked 16 = .ok (.invokestatic 56, 3) := by decide +kernel
theorem dX3_checked_19 : decode cX3_checked 19 = .ok (.ifCond .ne 17, 3) := by decide +kernel
theorem dX3_checked_22 : decode cX3_checked 22 = .ok (.aload_n 0, 1) := by decide +kernel
theorem dX3_checked_23 : decode cX3_checked 23 = .ok (.iload_n 1, 1) := by decide +kernel
theorem dX3_checked_24 : decode cX3_checked 24 = .ok (.iload_n 2, 1) := by decide +kernel
theorem dX3_checked_25 : decode cX3_checked 25 = .ok (.iconst 1, 1) := by decide +kernel
theorem dX3_checked_26 : decode cX3_checked 26 = .ok (.invokestatic 56, 3) := by decide +kernel
theorem dX3_checked_29 : decode cX3_checked 29 = .ok (.bipush 19, 2) := by decide +kernel
theorem dX3_checked_31 : decode cX3_checked 31 = .ok (.if_icmp .ne 5, 3) := by decide +kernel
theorem dX3_checked_34 : decode cX3_checked 34 = .ok (.iload_n 2, 1) := by decide +kernel
theorem dX3_checked_35 : decode cX3_checked 35 = .ok (.ireturn, 1) := by decide +kernel
theorem dX3_checked_36 : decode cX3_checked 36 = .ok (.iinc 2 1, 3) := by decide +kernel
theorem dX3_checked_39 : decode cX3_checked 39 = .ok (.goto (-37), 3) := by decide +kernel
theorem dX3_checked_42 : decode cX3_checked 42 = .ok (.iconst (-1), 1) := by decide +kernel
theorem dX3_checked_43 : decode cX3_checked 43 = .ok (.ireturn, 1) := by decide +kernel
theorem dX3_check_0 : decode cX3_check 0 = .ok (.aload_n 0, 1) := by decide +kernel
theorem dX3_check_1 : decode cX3_check 1 = .ok (.iload_n 1, 1) := by decide +kernel
theorem dX3_check_2 : decode cX3_check 2 = .ok (.invokestatic 79, 3) := by decide +kernel
theorem dX3_check_5 : decode cX3_check 5 = .ok (.istore_n 2, 1) := by decide +kernel
theorem dX3_check_6 : decode cX3_check 6 = .ok (.iload_n 2, 1) := by decide +kernel
theorem dX3_check_7 : decode cX3_check 7 = .ok (.iconst (-1), 1) := by decide +kernel
theorem dX3_check_8 : decode cX3_check 8 = .ok (.if_icmp .ne 12, 3) := by decide +kernel
theorem dX3_check_11 : decode cX3_check 11 = .ok (.aload_n 0, 1) := by decide +kernel
theorem dX3_check_12 : decode cX3_check 12 = .ok (.iload_n 1, 1) := by decide +kernel
theorem dX3_check_13 : decode cX3_check 13 = .ok (.bipush 6, 2) := by decide +kernel
theorem dX3_check_15 : decode cX3_check 15 = .ok (.iconst 0, 1) := by decide +kernel
theorem dX3_check_16 : decode cX3_check 16 = .ok (.invokestatic 67, 3) := by decide +kernel
theorem dX3_check_19 : decode cX3_check 19 = .ok (.return_, 1) := by decide +kernel
theorem dX3_check_20 : decode cX3_check 20 = .ok (.aload_n 0, 1) := by decide +kernel
theorem dX3_check_21 : decode cX3_check 21 = .ok (.iload_n 1, 1) := by decide +kernel
theorem dX3_check_22 : decode cX3_check 22 = .ok (.bipush 6, 2) := by decide +kernel
theorem dX3_check_24 : decode cX3_check 24 = .ok (.invokestatic 48, 3) := by decide +kernel
theorem dX3_check_27 : decode cX3_check 27 = .ok (.iconst 1, 1) := by decide +kernel
theorem dX3_check_28 : decode cX3_check 28 = .ok (.iadd, 1) := by decide +kernel
theorem dX3_check_29 : decode cX3_check 29 = .ok (.istore_n 3, 1) := by decide +kernel
theorem dX3_check_30 : decode cX3_check 30 = .ok (.aload_n 0, 1) := by decide +kernel
theorem dX3_check_31 : decode cX3_check 31 = .ok (.iload_n 1, 1) := by decide +kernel
theorem dX3_check_32 : decode cX3_check 32 = .ok (.iload_n 2, 1) := by decide +kernel
theorem dX3_check_33 : decode cX3_check 33 = .ok (.iconst 2, 1) := by decide +kernel
theorem dX3_check_34 : decode cX3_check 34 = .ok (.invokestatic 56, 3) := by decide +kernel
theorem dX3_check_37 : decode cX3_check 37 = .ok (.iconst 1, 1) := by decide +kernel
theorem dX3_check_38 : decode cX3_check 38 = .ok (.if_icmp .ne 7, 3) := by decide +kernel
theorem dX3_check_41 : decode cX3_check 41 = .ok (.iconst 1, 1) := by decide +kernel
theorem dX3_check_42 : decode cX3_check 42 = .ok (.goto 4, 3) := by decide +kernel
theorem dX3_check_45 : decode cX3_check 45 = .ok (.iconst 0, 1) := by decide +kernel
theorem dX3_check_46 : decode cX3_check 46 = .ok (.istore 4, 2) := by decide +kernel
theorem dX3_check_48 : decode cX3_check 48 = .ok (.iload_n 3, 1) := by decide +kernel
theorem dX3_check_49 : decode cX3_check 49 = .ok (.aload_n 0, 1) := by decide +kernel
theorem dX3_check_50 : decode cX3_check 50 = .ok (.bipush 7, 2) := by decide +kernel
theorem dX3_check_52 : decode cX3_check 52 = .ok (.iload 4, 2) := by decide +kernel
theorem dX3_check_54 : decode cX3_check 54 = .ok (.ifCond .eq 7, 3) := by decide +kernel
theorem dX3_check_57 : decode cX3_check 57 = .ok (.iconst 1, 1) := by decide +kernel
theorem dX3_check_58 : decode cX3_check 58 = .ok (.goto 4, 3) := by decide +kernel
theorem dX3_check_61 : decode cX3_check 61 = .ok (.iconst 0, 1) := by decide +kernel
theorem dX3_check_62 : decode cX3_check 62 = .ok (.iadd, 1) := by decide +kernel
theorem dX3_check_63 : decode cX3_check 63 = .ok (.iaload, 1) := by decide +kernel
theorem dX3_check_64 : decode cX3_check 64 = .ok (.if_icmp .lt 7, 3) := by decide +kernel
theorem dX3_check_67 : decode cX3_check 67 = .ok (.iconst 1, 1) := by decide +kernel
theorem dX3_check_68 : decode cX3_check 68 = .ok (.goto 4, 3) := by decide +kernel
theorem dX3_check_71 : decode cX3_check 71 = .ok (.iconst 0, 1) := by decide +kernel
theorem dX3_check_72 : decode cX3_check 72 = .ok (.istore 5, 2) := by decide +kernel
theorem dX3_check_74 : decode cX3_check 74 = .ok (.aload_n 0, 1) := by decide +kernel
theorem dX3_check_75 : decode cX3_check 75 = .ok (.iload_n 1, 1) := by decide +kernel
theorem dX3_check_76 : decode cX3_check 76 = .ok (.bipush 6, 2) := by decide +kernel
theorem dX3_check_78 : decode cX3_check 78 = .ok (.iload 5, 2) := by decide +kernel
theorem dX3_check_80 : decode cX3_check 80 = .ok (.ifCond .eq 7, 3) := by decide +kernel
theorem dX3_check_83 : decode cX3_check 83 = .ok (.iconst 0, 1) := by decide +kernel
theorem dX3_check_84 : decode cX3_check 84 = .ok (.goto 4, 3) := by decide +kernel
theorem dX3_check_87 : decode cX3_check 87 = .ok (.iload_n 3, 1) := by decide +kernel
theorem dX3_check_88 : decode cX3_check 88 = .ok (.invokestatic 67, 3) := by decide +kernel
theorem dX3_check_91 : decode cX3_check 91 = .ok (.iload 5, 2) := by decide +kernel
theorem dX3_check_93 : decode cX3_check 93 = .ok (.ifCond .eq 51, 3) := by decide +kernel
theorem dX3_check_96 : decode cX3_check 96 = .ok (.aload_n 0, 1) := by decide +kernel
theorem dX3_check_97 : decode cX3_check 97 = .ok (.iload_n 1, 1) := by decide +kernel
theorem dX3_check_98 : decode cX3_check 98 = .ok (.iload_n 2, 1) := by decide +kernel
theorem dX3_check_99 : decode cX3_check 99 = .ok (.iconst 4, 1) := by decide +kernel
theorem dX3_check_100 : decode cX3_check 100 = .ok (.invokestatic 52, 3) := by decide +kernel
theorem dX3_check_103 : decode cX3_check 103 = .ok (.iconst 1, 1) := by decide +kernel
theorem dX3_check_104 : decode cX3_check 104 = .ok (.invokestatic 67, 3) := by decide +kernel
theorem dX3_check_107 : decode cX3_check 107 = .ok (.aload_n 0, 1) := by decide +kernel
theorem dX3_check_108 : decode cX3_check 108 = .ok (.iload_n 1, 1) := by decide +kernel
theorem dX3_check_109 : decode cX3_check 109 = .ok (.iconst 2, 1) := by decide +kernel
theorem dX3_check_110 : decode cX3_check 110 = .ok (.aload_n 0, 1) := by decide +kernel
theorem dX3_check_111 : decode cX3_check 111 = .ok (.iload_n 1, 1) := by decide +kernel
theorem dX3_check_112 : decode cX3_check 112 = .ok (.iconst 3, 1) := by decide +kernel
theorem dX3_check_113 : decode cX3_check 113 = .ok (.invokestatic 48, 3) := by decide +kernel
theorem dX3_check_116 : decode cX3_check 116 = .ok (.bipush 8, 2) := by decide +kernel
theorem dX3_check_118 : decode cX3_check 118 = .ok (.idiv, 1) := by decide +kernel
theorem dX3_check_119 : decode cX3_check 119 = .ok (.aload_n 0, 1) := by decide +kernel
theorem dX3_check_120 : decode cX3_check 120 = .ok (.bipush 9, 2) := by decide +kernel
theorem dX3_check_122 : decode cX3_check 122 = .ok (.iaload, 1) := by decide +kernel
theorem dX3_check_123 : decode cX3_check 123 = .ok (.iadd, 1) := by decide +kernel
theorem dX3_check_124 : decode cX3_check 124 = .ok (.invokestatic 67, 3) := by decide +kernel
theorem dX3_check_127 : decode cX3_check 127 = .ok (.aload_n 0, 1) := by decide +kernel
theorem dX3_check_128 : decode cX3_check 128 = .ok (.bipush 6, 2) := by decide +kernel
theorem dX3_check_130 : decode cX3_check 130 = .ok (.dup2, 1) := by decide +kernel
theorem dX3_check_131 : decode cX3_check 131 = .ok (.iaload, 1) := by decide +kernel
theorem dX3_check_132 : decode cX3_check 132 = .ok (.iload 4, 2) := by decide +kernel
theorem dX3_check_134 : decode cX3_check 134 = .ok (.ifCond .eq 7, 3) := by decide +kernel
theorem dX3_check_137 : decode cX3_check 137 = .ok (.iconst 1, 1) := by decide +kernel
theorem dX3_check_138 : decode cX3_check 138 = .ok (.goto 4, 3) := by decide +kernel
theorem dX3_check_141 : decode cX3_check 141 = .ok (.iconst 0, 1) := by decide +kernel
theorem dX3_check_142 : decode cX3_check 142 = .ok (.iadd, 1) := by decide +kernel
theorem dX3_check_143 : decode cX3_check 143 = .ok (.iastore, 1) := by decide +kernel
theorem dX3_check_144 : decode cX3_check 144 = .ok (.return_, 1) := by decide +kernel
theorem dX3_reason_0 : decode cX3_reason 0 = .ok (.iconst 0, 1) := by decide +kernel
theorem dX3_reason_1 : decode cX3_reason 1 = .ok (.istore_n 2, 1) := by decide +kernel
theorem dX3_reason_2 : decode cX3_reason 2 = .ok (.iconst 0, 1) := by decide +kernel
theorem dX3_reason_3 : decode cX3_reason 3 = .ok (.istore_n 3, 1) := by decide +kernel
theorem dX3_reason_4 : decode cX3_reason 4 = .ok (.iload_n 3, 1) := by decide +kernel
theorem dX3_reason_5 : decode cX3_reason 5 = .ok (.aload_n 0, 1) := by decide +kernel
theorem dX3_reason_6 : decode cX3_reason 6 = .ok (.iload_n 1, 1) := by decide +kernel
theorem dX3_reason_7 : decode cX3_reason 7 = .ok (.iconst 0, 1) := by decide +kernel
theorem dX3_reason_8 : decode cX3_reason 8 = .ok (.invokestatic 48, 3) := by decide +kernel
theorem dX3_reason_11 : decode cX3_reason 11 = .ok (.if_icmp .ge 105, 3) := by decide +kernel
theorem dX3_reason_14 : decode cX3_reason 14 = .ok (.aload_n 0, 1) := by decide +kernel
theorem dX3_reason_15 : decode cX3_reason 15 = .ok (.iload_n 1, 1) := by decide +kernel
theorem dX3_reason_16 : decode cX3_reason 16 = .ok (.iload_n 3, 1) := by decide +kernel
theorem dX3_reason_17 : decode cX3_reason 17 = .ok (.iconst 1, 1) := by decide +kernel
theorem dX3_reason_18 : decode cX3_reason 18 = .ok (.invokestatic 56, 3) := by decide +kernel
theorem dX3_reason_21 : decode cX3_reason 21 = .ok (.istore 4, 2) := by decide +kernel
theorem dX3_reason_23 : decode cX3_reason 23 = .ok (.aload_n 0, 1) := by decide +kernel
theorem dX3_reason_24 : decode cX3_reason 24 = .ok (.iload_n 1, 1) := by decide +kernel
theorem dX3_reason_25 : decode cX3_reason 25 = .ok (.iload_n 3, 1) := by decide +kernel
theorem dX3_reason_26 : decode cX3_reason 26 = .ok (.iconst 4, 1) := by decide +kernel
theorem dX3_reason_27 : decode cX3_reason 27 = .ok (.invokestatic 56, 3) := by decide +kernel
theorem dX3_reason_30 : decode cX3_reason 30 = .ok (.iconst 1, 1) := by decide +kernel
theorem dX3_reason_31 : decode cX3_reason 31 = .ok (.if_icmp .ne 12, 3) := by decide +kernel
theorem dX3_reason_34 : decode cX3_reason 34 = .ok (.iload 4, 2) := by decide +kernel
theorem dX3_reason_36 : decode cX3_reason 36 = .ok (.bipush 20, 2) := by decide +kernel
theorem dX3_reason_38 : decode cX3_reason 38 = .ok (.if_icmp .ge 5, 3) := by decide +kernel
theorem dX3_reason_41 : decode cX3_reason 41 = .ok (.iconst 1, 1) := by decide +kernel
theorem dX3_reason_42 : decode cX3_reason 42 = .ok (.ireturn, 1) := by decide +kernel
theorem dX3_reason_43 : decode cX3_reason 43 = .ok (.aload_n 0, 1) := by decide +kernel
theorem dX3_reason_44 : decode cX3_reason 44 = .ok (.iload_n 1, 1) := by decide +kernel
theorem dX3_reason_45 : decode cX3_reason 45 = .ok (.iload_n 3, 1) := by decide +kernel
theorem dX3_reason_46 : decode cX3_reason 46 = .ok (.bipush 19, 2) := by decide +kernel
theorem dX3_reason_48 : decode cX3_reason 48 = .ok (.invokestatic 63, 3) := by decide +kernel
theorem dX3_reason_51 : decode cX3_reason 51 = .ok (.ifCond .ne 25, 3) := by decide +kernel
theorem dX3_reason_54 : decode cX3_reason 54 = .ok (.aload_n 0, 1) := by decide +kernel
theorem dX3_reason_55 : decode cX3_reason 55 = .ok (.iload_n 1, 1) := by decide +kernel
theorem dX3_reason_56 : decode cX3_reason 56 = .ok (.iload_n 3, 1) := by decide +kernel
theorem dX3_reason_57 : decode cX3_reason 57 = .ok (.bipush 20, 2) := by decide +kernel
theorem dX3_reason_59 : decode cX3_reason 59 = .ok (.invokestatic 63, 3) := by decide +kernel
theorem dX3_reason_62 : decode cX3_reason 62 = .ok (.ifCond .ne 14, 3) := by decide +kernel
theorem dX3_reason_65 : decode cX3_reason 65 = .ok (.aload_n 0, 1) := by decide +kernel
theorem dX3_reason_66 : decode cX3_reason 66 = .ok (.iload_n 1, 1) := by decide +kernel
theorem dX3_reason_67 : decode cX3_reason 67 = .ok (.iload_n 3, 1) := by decide +kernel
theorem dX3_reason_68 : decode cX3_reason 68 = .ok (.bipush 21, 2) := by decide +kernel
theorem dX3_reason_70 : decode cX3_reason 70 = .ok (.invokestatic 63, 3) := by decide +kernel
theorem dX3_reason_73 : decode cX3_reason 73 = .ok (.ifCond .eq 7, 3) := by decide +kernel
theorem dX3_reason_76 : decode cX3_reason 76 = .ok (.iconst 1, 1) := by decide +kernel
theorem dX3_reason_77 : decode cX3_reason 77 = .ok (.goto 4, 3) := by decide +kernel
theorem dX3_reason_80 : decode cX3_reason 80 = .ok (.iconst 0, 1) := by decide +kernel
theorem dX3_reason_81 : decode cX3_reason 81 = .ok (.istore 5, 2) := by decide +kernel
theorem dX3_reason_83 : decode cX3_reason 83 = .ok (.iload 5, 2) := by decide +kernel
theorem dX3_reason_85 : decode cX3_reason 85 = .ok (.ifCond .eq 23, 3) := by decide +kernel
theorem dX3_reason_88 : decode cX3_reason 88 = .ok (.iload 4, 2) := by decide +kernel
theorem dX3_reason_90 : decode cX3_reason 90 = .ok (.bipush 20, 2) := by decide +kernel
theorem dX3_reason_92 : decode cX3_reason 92 = .ok (.if_icmp .lt 16, 3) := by decide +kernel
theorem dX3_reason_95 : decode cX3_reason 95 = .ok (.aload_n 0, 1) := by decide +kernel
theorem dX3_reason_96 : decode cX3_reason 96 = .ok (.iload_n 1, 1) := by decide +kernel
theorem dX3_reason_97 : decode cX3_reason 97 = .ok (.iconst 4, 1) := by decide +kernel
theorem dX3_reason_98 : decode cX3_reason 98 = .ok (.invokestatic 48, 3) := by decide +kernel
theorem dX3_reason_101 : decode cX3_reason 101 = .ok (.ifCond .ne 7, 3) := by decide +kernel
theorem dX3_reason_104 : decode cX3_reason 104 = .ok (.iconst 2, 1) := by decide +kernel
theorem dX3_reason_105 : decode cX3_reason 105 = .ok (.goto 4, 3) := by decide +kernel
theorem dX3_reason_108 : decode cX3_reason 108 = .ok (.iload_n 2, 1) := by decide +kernel
theorem dX3_reason_109 : decode cX3_reason 109 = .ok (.istore_n 2, 1) := by decide +kernel
theorem dX3_reason_110 : decode cX3_reason 110 = .ok (.iinc 3 1, 3) := by decide +kernel
theorem dX3_reason_113 : decode cX3_reason 113 = .ok (.goto (-109), 3) := by decide +kernel
theorem dX3_reason_116 : decode cX3_reason 116 = .ok (.iload_n 2, 1) := by decide +kernel
theorem dX3_reason_117 : decode cX3_reason 117 = .ok (.ifCond .le 7, 3) := by decide +kernel
theorem dX3_reason_120 : decode cX3_reason 120 = .ok (.iload_n 2, 1) := by decide +kernel
theorem dX3_reason_121 : decode cX3_reason 121 = .ok (.goto 17, 3) := by decide +kernel
theorem dX3_reason_124 : decode cX3_reason 124 = .ok (.aload_n 0, 1) := by decide +kernel
theorem dX3_reason_125 : decode cX3_reason 125 = .ok (.iload_n 1, 1) := by decide +kernel
theorem dX3_reason_126 : decode cX3_reason 126 = .ok (.iconst 2, 1) := by decide +kernel
theorem dX3_reason_127 : decode cX3_reason 127 = .ok (.invokestatic 48, 3) := by decide +kernel
theorem dX3_reason_130 : decode cX3_reason 130 = .ok (.ifCond .le 7, 3) := by decide +kernel
theorem dX3_reason_133 : decode cX3_reason 133 = .ok (.iconst 3, 1) := by decide +kernel
theorem dX3_reason_134 : decode cX3_reason 134 = .ok (.goto 4, 3) := by decide +kernel
theorem dX3_reason_137 : decode cX3_reason 137 = .ok (.iconst 0, 1) := by decide +kernel
theorem dX3_reason_138 : decode cX3_reason 138 = .ok (.ireturn, 1) := by decide +kernel
theorem dX3_turnArm_0 : decode cX3_turnArm 0 = .ok (.aload_n 0, 1) := by decide +kernel
theorem dX3_turnArm_1 : decode cX3_turnArm 1 = .ok (.iload_n 1, 1) := by decide +kernel
theorem dX3_turnArm_2 : decode cX3_turnArm 2 = .ok (.iconst 5, 1) := by decide +kernel
theorem dX3_turnArm_3 : decode cX3_turnArm 3 = .ok (.invokestatic 48, 3) := by decide +kernel
theorem dX3_turnArm_6 : decode cX3_turnArm 6 = .ok (.iconst 1, 1) := by decide +kernel
theorem dX3_turnArm_7 : decode cX3_turnArm 7 = .ok (.if_icmp .ne 4, 3) := by decide +kernel
theorem dX3_turnArm_10 : decode cX3_turnArm 10 = .ok (.return_, 1) := by decide +kernel
theorem dX3_turnArm_11 : decode cX3_turnArm 11 = .ok (.aload_n 0, 1) := by decide +kernel
theorem dX3_turnArm_12 : decode cX3_turnArm 12 = .ok (.iload_n 1, 1) := by decide +kernel
theorem dX3_turnArm_13 : decode cX3_turnArm 13 = .ok (.iconst 1, 1) := by decide +kernel
theorem dX3_turnArm_14 : decode cX3_turnArm 14 = .ok (.invokestatic 48, 3) := by decide +kernel
theorem dX3_turnArm_17 : decode cX3_turnArm 17 = .ok (.aload_n 0, 1) := by decide +kernel
theorem dX3_turnArm_18 : decode cX3_turnArm 18 = .ok (.iload_n 1, 1) := by decide +kernel
theorem dX3_turnArm_19 : decode cX3_turnArm 19 = .ok (.invokestatic 83, 3) := by decide +kernel
theorem dX3_turnArm_22 : decode cX3_turnArm 22 = .ok (.ifCond .le 7, 3) := by decide +kernel
theorem dX3_turnArm_25 : decode cX3_turnArm 25 = .ok (.iconst 1, 1) := by decide +kernel
theorem dX3_turnArm_26 : decode cX3_turnArm 26 = .ok (.goto 4, 3) := by decide +kernel
theorem dX3_turnArm_29 : decode cX3_turnArm 29 = .ok (.iconst (-1), 1) := by decide +kernel
theorem dX3_turnArm_30 : decode cX3_turnArm 30 = .ok (.iadd, 1) := by decide +kernel
theorem dX3_turnArm_31 : decode cX3_turnArm 31 = .ok (.istore_n 2, 1) := by decide +kernel
theorem dX3_turnArm_32 : decode cX3_turnArm 32 = .ok (.iload_n 2, 1) := by decide +kernel
theorem dX3_turnArm_33 : decode cX3_turnArm 33 = .ok (.ifCond .ge 7, 3) := by decide +kernel
theorem dX3_turnArm_36 : decode cX3_turnArm 36 = .ok (.iconst 0, 1) := by decide +kernel
theorem dX3_turnArm_37 : decode cX3_turnArm 37 = .ok (.goto 13, 3) := by decide +kernel
theorem dX3_turnArm_40 : decode cX3_turnArm 40 = .ok (.iload_n 2, 1) := by decide +kernel
theorem dX3_turnArm_41 : decode cX3_turnArm 41 = .ok (.iconst 4, 1) := by decide +kernel
theorem dX3_turnArm_42 : decode cX3_turnArm 42 = .ok (.if_icmp .le 7, 3) := by decide +kernel
theorem dX3_turnArm_45 : decode cX3_turnArm 45 = .ok (.iconst 4, 1) := by decide +kernel
theorem dX3_turnArm_46 : decode cX3_turnArm 46 = .ok (.goto 4, 3) := by decide +kernel
theorem dX3_turnArm_49 : decode cX3_turnArm 49 = .ok (.iload_n 2, 1) := by decide +kernel
theorem dX3_turnArm_50 : decode cX3_turnArm 50 = .ok (.istore_n 2, 1) := by decide +kernel
theorem dX3_turnArm_51 : decode cX3_turnArm 51 = .ok (.aload_n 0, 1) := by decide +kernel
theorem dX3_turnArm_52 : decode cX3_turnArm 52 = .ok (.iload_n 1, 1) := by decide +kernel
theorem dX3_turnArm_53 : decode cX3_turnArm 53 = .ok (.iconst 1, 1) := by decide +kernel
theorem dX3_turnArm_54 : decode cX3_turnArm 54 = .ok (.iload_n 2, 1) := by decide +kernel
theorem dX3_turnArm_55 : decode cX3_turnArm 55 = .ok (.invokestatic 67, 3) := by decide +kernel
theorem dX3_turnArm_58 : decode cX3_turnArm 58 = .ok (.aload_n 0, 1) := by decide +kernel
theorem dX3_turnArm_59 : decode cX3_turnArm 59 = .ok (.iload_n 1, 1) := by decide +kernel
theorem dX3_turnArm_60 : decode cX3_turnArm 60 = .ok (.iconst 2, 1) := by decide +kernel
theorem dX3_turnArm_61 : decode cX3_turnArm 61 = .ok (.invokestatic 48, 3) := by decide +kernel
theorem dX3_turnArm_64 : decode cX3_turnArm 64 = .ok (.istore_n 3, 1) := by decide +kernel
theorem dX3_turnArm_65 : decode cX3_turnArm 65 = .ok (.aload_n 0, 1) := by decide +kernel
theorem dX3_turnArm_66 : decode cX3_turnArm 66 = .ok (.iload_n 1, 1) := by decide +kernel
theorem dX3_turnArm_67 : decode cX3_turnArm 67 = .ok (.iconst 2, 1) := by decide +kernel
theorem dX3_turnArm_68 : decode cX3_turnArm 68 = .ok (.iload_n 2, 1) := by decide +kernel
theorem dX3_turnArm_69 : decode cX3_turnArm 69 = .ok (.iconst 4, 1) := by decide +kernel
theorem dX3_turnArm_70 : decode cX3_turnArm 70 = .ok (.if_icmp .ne 13, 3) := by decide +kernel
theorem dX3_turnArm_73 : decode cX3_turnArm 73 = .ok (.iload_n 3, 1) := by decide +kernel
theorem dX3_turnArm_74 : decode cX3_turnArm 74 = .ok (.ifCond .le 9, 3) := by decide +kernel
theorem dX3_turnArm_77 : decode cX3_turnArm 77 = .ok (.iload_n 3, 1) := by decide +kernel
theorem dX3_turnArm_78 : decode cX3_turnArm 78 = .ok (.iconst 1, 1) := by decide +kernel
theorem dX3_turnArm_79 : decode cX3_turnArm 79 = .ok (.isub, 1) := by decide +kernel
theorem dX3_turnArm_80 : decode cX3_turnArm 80 = .ok (.goto 4, 3) := by decide +kernel
theorem dX3_turnArm_83 : decode cX3_turnArm 83 = .ok (.iload_n 3, 1) := by decide +kernel
theorem dX3_turnArm_84 : decode cX3_turnArm 84 = .ok (.invokestatic 67, 3) := by decide +kernel
theorem dX3_turnArm_87 : decode cX3_turnArm 87 = .ok (.return_, 1) := by decide +kernel
theorem dX3_hit_0 : decode cX3_hit 0 = .ok (.aload_n 0, 1) := by decide +kernel
theorem dX3_hit_1 : decode cX3_hit 1 = .ok (.iload_n 1, 1) := by decide +kernel
theorem dX3_hit_2 : decode cX3_hit 2 = .ok (.iconst 5, 1) := by decide +kernel
theorem dX3_hit_3 : decode cX3_hit 3 = .ok (.invokestatic 48, 3) := by decide +kernel
theorem dX3_hit_6 : decode cX3_hit 6 = .ok (.ifCond .ne 35, 3) := by decide +kernel
theorem dX3_hit_9 : decode cX3_hit 9 = .ok (.aload_n 0, 1) := by decide +kernel
theorem dX3_hit_10 : decode cX3_hit 10 = .ok (.iload_n 1, 1) := by decide +kernel
theorem dX3_hit_11 : decode cX3_hit 11 = .ok (.iconst 1, 1) := by decide +kernel
theorem dX3_hit_12 : decode cX3_hit 12 = .ok (.invokestatic 48, 3) := by decide +kernel
theorem dX3_hit_15 : decode cX3_hit 15 = .ok (.iconst 4, 1) := by decide +kernel
theorem dX3_hit_16 : decode cX3_hit 16 = .ok (.if_icmp .ge 25, 3) := by decide +kernel
theorem dX3_hit_19 : decode cX3_hit 19 = .ok (.aload_n 0, 1) := by decide +kernel
theorem dX3_hit_20 : decode cX3_hit 20 = .ok (.iload_n 1, 1) := by decide +kernel
theorem dX3_hit_21 : decode cX3_hit 21 = .ok (.invokestatic 86, 3) := by decide +kernel
theorem dX3_hit_24 : decode cX3_hit 24 = .ok (.ifCond .eq 17, 3) := by decide +kernel
theorem dX3_hit_27 : decode cX3_hit 27 = .ok (.aload_n 0, 1) := by decide +kernel
theorem dX3_hit_28 : decode cX3_hit 28 = .ok (.iload_n 1, 1) := by decide +kernel
theorem dX3_hit_29 : decode cX3_hit 29 = .ok (.iconst 5, 1) := by decide +kernel
theorem dX3_hit_30 : decode cX3_hit 30 = .ok (.iconst 1, 1) := by decide +kernel
theorem dX3_hit_31 : decode cX3_hit 31 = .ok (.invokestatic 67, 3) := by decide +kernel
theorem dX3_hit_34 : decode cX3_hit 34 = .ok (.aload_n 0, 1) := by decide +kernel
theorem dX3_hit_35 : decode cX3_hit 35 = .ok (.iconst 5, 1) := by decide +kernel
theorem dX3_hit_36 : decode cX3_hit 36 = .ok (.dup2, 1) := by decide +kernel
theorem dX3_hit_37 : decode cX3_hit 37 = .ok (.iaload, 1) := by decide +kernel
theorem dX3_hit_38 : decode cX3_hit 38 = .ok (.iconst 1, 1) := by decide +kernel
theorem dX3_hit_39 : decode cX3_hit 39 = .ok (.iadd, 1) := by decide +kernel
theorem dX3_hit_40 : decode cX3_hit 40 = .ok (.iastore, 1) := by decide +kernel
theorem dX3_hit_41 : decode cX3_hit 41 = .ok (.return_, 1) := by decide +kernel
theorem dX3_goThrough_0 : decode cX3_goThrough 0 = .ok (.iconst 0, 1) := by decide +kernel
theorem dX3_goThrough_1 : decode cX3_goThrough 1 = .ok (.istore_n 3, 1) := by decide +kernel
theorem dX3_goThrough_2 : decode cX3_goThrough 2 = .ok (.iload_n 3, 1) := by decide +kernel
theorem dX3_goThrough_3 : decode cX3_goThrough 3 = .ok (.aload_n 1, 1) := by decide +kernel
theorem dX3_goThrough_4 : decode cX3_goThrough 4 = .ok (.iload_n 2, 1) := by decide +kernel
theorem dX3_goThrough_5 : decode cX3_goThrough 5 = .ok (.iconst 0, 1) := by decide +kernel
theorem dX3_goThrough_6 : decode cX3_goThrough 6 = .ok (.invokestatic 48, 3) := by decide +kernel
theorem dX3_goThrough_9 : decode cX3_goThrough 9 = .ok (.if_icmp .ge 121, 3) := by decide +kernel
theorem dX3_goThrough_12 : decode cX3_goThrough 12 = .ok (.aload_n 0, 1) := by decide +kernel
theorem dX3_goThrough_13 : decode cX3_goThrough 13 = .ok (.getfield 29, 3) := by decide +kernel
theorem dX3_goThrough_16 : decode cX3_goThrough 16 = .ok (.iload_n 3, 1) := by decide +kernel
theorem dX3_goThrough_17 : decode cX3_goThrough 17 = .ok (.baload, 1) := by decide +kernel
theorem dX3_goThrough_18 : decode cX3_goThrough 18 = .ok (.ifCond .eq 106, 3) := by decide +kernel
theorem dX3_goThrough_21 : decode cX3_goThrough 21 = .ok (.aload_n 1, 1) := by decide +kernel
theorem dX3_goThrough_22 : decode cX3_goThrough 22 = .ok (.iload_n 2, 1) := by decide +kernel
theorem dX3_goThrough_23 : decode cX3_goThrough 23 = .ok (.iload_n 3, 1) := by decide +kernel
theorem dX3_goThrough_24 : decode cX3_goThrough 24 = .ok (.invokestatic 60, 3) := by decide +kernel
theorem dX3_goThrough_27 : decode cX3_goThrough 27 = .ok (.bipush 21, 2) := by decide +kernel
theorem dX3_goThrough_29 : decode cX3_goThrough 29 = .ok (.if_icmp .ne 95, 3) := by decide +kernel
theorem dX3_goThrough_32 : decode cX3_goThrough 32 = .ok (.aload_n 1, 1) := by decide +kernel
theorem dX3_goThrough_33 : decode cX3_goThrough 33 = .ok (.iload_n 2, 1) := by decide +kernel
theorem dX3_goThrough_34 : decode cX3_goThrough 34 = .ok (.iload_n 3, 1) := by decide +kernel
theorem dX3_goThrough_35 : decode cX3_goThrough 35 = .ok (.iconst 4, 1) := by decide +kernel
theorem dX3_goThrough_36 : decode cX3_goThrough 36 = .ok (.invokestatic 56, 3) := by decide +kernel
theorem dX3_goThrough_39 : decode cX3_goThrough 39 = .ok (.iconst 1, 1) := by decide +kernel
theorem dX3_goThrough_40 : decode cX3_goThrough 40 = .ok (.if_icmp .ne 7, 3) := by decide +kernel
theorem dX3_goThrough_43 : decode cX3_goThrough 43 = .ok (.iconst 1, 1) := by decide +kernel
theorem dX3_goThrough_44 : decode cX3_goThrough 44 = .ok (.goto 4, 3) := by decide +kernel
theorem dX3_goThrough_47 : decode cX3_goThrough 47 = .ok (.iconst 0, 1) := by decide +kernel
theorem dX3_goThrough_48 : decode cX3_goThrough 48 = .ok (.istore 4, 2) := by decide +kernel
theorem dX3_goThrough_50 : decode cX3_goThrough 50 = .ok (.aload_n 1, 1) := by decide +kernel
theorem dX3_goThrough_51 : decode cX3_goThrough 51 = .ok (.iconst 3, 1) := by decide +kernel
theorem dX3_goThrough_52 : decode cX3_goThrough 52 = .ok (.dup2, 1) := by decide +kernel
theorem dX3_goThrough_53 : decode cX3_goThrough 53 = .ok (.iaload, 1) := by decide +kernel
theorem dX3_goThrough_54 : decode cX3_goThrough 54 = .ok (.iload 4, 2) := by decide +kernel
theorem dX3_goThrough_56 : decode cX3_goThrough 56 = .ok (.ifCond .eq 7, 3) := by decide +kernel
theorem dX3_goThrough_59 : decode cX3_goThrough 59 = .ok (.iconst 1, 1) := by decide +kernel
theorem dX3_goThrough_60 : decode cX3_goThrough 60 = .ok (.goto 4, 3) := by decide +kernel
theorem dX3_goThrough_63 : decode cX3_goThrough 63 = .ok (.iconst 0, 1) := by decide +kernel
theorem dX3_goThrough_64 : decode cX3_goThrough 64 = .ok (.iadd, 1) := by decide +kernel
theorem dX3_goThrough_65 : decode cX3_goThrough 65 = .ok (.iastore, 1) := by decide +kernel
theorem dX3_goThrough_66 : decode cX3_goThrough 66 = .ok (.aload_n 1, 1) := by decide +kernel
theorem dX3_goThrough_67 : decode cX3_goThrough 67 = .ok (.iconst 4, 1) := by decide +kernel
theorem dX3_goThrough_68 : decode cX3_goThrough 68 = .ok (.dup2, 1) := by decide +kernel
theorem dX3_goThrough_69 : decode cX3_goThrough 69 = .ok (.iaload, 1) := by decide +kernel
theorem dX3_goThrough_70 : decode cX3_goThrough 70 = .ok (.iload 4, 2) := by decide +kernel
theorem dX3_goThrough_72 : decode cX3_goThrough 72 = .ok (.ifCond .eq 7, 3) := by decide +kernel
theorem dX3_goThrough_75 : decode cX3_goThrough 75 = .ok (.iconst 0, 1) := by decide +kernel
theorem dX3_goThrough_76 : decode cX3_goThrough 76 = .ok (.goto 4, 3) := by decide +kernel
theorem dX3_goThrough_79 : decode cX3_goThrough 79 = .ok (.iconst 1, 1) := by decide +kernel
theorem dX3_goThrough_80 : decode cX3_goThrough 80 = .ok (.iadd, 1) := by decide +kernel
theorem dX3_goThrough_81 : decode cX3_goThrough 81 = .ok (.iastore, 1) := by decide +kernel
theorem dX3_goThrough_82 : decode cX3_goThrough 82 = .ok (.aload_n 1, 1) := by decide +kernel
theorem dX3_goThrough_83 : decode cX3_goThrough 83 = .ok (.iload_n 2, 1) := by decide +kernel
theorem dX3_goThrough_84 : decode cX3_goThrough 84 = .ok (.iconst 3, 1) := by decide +kernel
theorem dX3_goThrough_85 : decode cX3_goThrough 85 = .ok (.invokestatic 48, 3) := by decide +kernel
theorem dX3_goThrough_88 : decode cX3_goThrough 88 = .ok (.istore 5, 2) := by decide +kernel
theorem dX3_goThrough_90 : decode cX3_goThrough 90 = .ok (.aload_n 1, 1) := by decide +kernel
theorem dX3_goThrough_91 : decode cX3_goThrough 91 = .ok (.iload_n 2, 1) := by decide +kernel
theorem dX3_goThrough_92 : decode cX3_goThrough 92 = .ok (.iconst 3, 1) := by decide +kernel
theorem dX3_goThrough_93 : decode cX3_goThrough 93 = .ok (.iload 4, 2) := by decide +kernel
theorem dX3_goThrough_95 : decode cX3_goThrough 95 = .ok (.ifCond .eq 24, 3) := by decide +kernel
theorem dX3_goThrough_98 : decode cX3_goThrough 98 = .ok (.iload 5, 2) := by decide +kernel
theorem dX3_goThrough_100 : decode cX3_goThrough 100 = .ok (.bipush 8, 2) := by decide +kernel
theorem dX3_goThrough_102 : decode cX3_goThrough 102 = .ok (.aload_n 1, 1) := by decide +kernel
theorem dX3_goThrough_103 : decode cX3_goThrough 103 = .ok (.iload_n 2, 1) := by decide +kernel
theorem dX3_goThrough_104 : decode cX3_goThrough 104 = .ok (.iload_n 3, 1) := by decide +kernel
theorem dX3_goThrough_105 : decode cX3_goThrough 105 = .ok (.iconst 0, 1) := by decide +kernel
theorem dX3_goThrough_106 : decode cX3_goThrough 106 = .ok (.invokestatic 56, 3) := by decide +kernel
theorem dX3_goThrough_109 : decode cX3_goThrough 109 = .ok (.imul, 1) := by decide +kernel
theorem dX3_goThrough_110 : decode cX3_goThrough 110 = .ok (.iload 5, 2) := by decide +kernel
theorem dX3_goThrough_112 : decode cX3_goThrough 112 = .ok (.isub, 1) := by decide +kernel
theorem dX3_goThrough_113 : decode cX3_goThrough 113 = .ok (.iconst 4, 1) := by decide +kernel
theorem dX3_goThrough_114 : decode cX3_goThrough 114 = .ok (.idiv, 1) := by decide +kernel
theorem dX3_goThrough_115 : decode cX3_goThrough 115 = .ok (.iadd, 1) := by decide +kernel
theorem dX3_goThrough_116 : decode cX3_goThrough 116 = .ok (.goto 5, 3) := by decide +kernel
theorem dX3_goThrough_119 : decode cX3_goThrough 119 = .ok (.iload 5, 2) := by decide +kernel
theorem dX3_goThrough_121 : decode cX3_goThrough 121 = .ok (.invokestatic 67, 3) := by decide +kernel
theorem dX3_goThrough_124 : decode cX3_goThrough 124 = .ok (.iinc 3 1, 3) := by decide +kernel
theorem dX3_goThrough_127 : decode cX3_goThrough 127 = .ok (.goto (-125), 3) := by decide +kernel
theorem dX3_goThrough_130 : decode cX3_goThrough 130 = .ok (.return_, 1) := by decide +kernel
theorem dX3_tickOn_0 : decode cX3_tickOn 0 = .ok (.iconst 0, 1) := by decide +kernel
theorem dX3_tickOn_1 : decode cX3_tickOn 1 = .ok (.istore_n 2, 1) := by decide +kernel
theorem dX3_tickOn_2 : decode cX3_tickOn 2 = .ok (.iload_n 2, 1) := by decide +kernel
theorem dX3_tickOn_3 : decode cX3_tickOn 3 = .ok (.aload_n 1, 1) := by decide +kernel
theorem dX3_tickOn_4 : decode cX3_tickOn 4 = .ok (.iconst 0, 1) := by decide +kernel
theorem dX3_tickOn_5 : decode cX3_tickOn 5 = .ok (.iaload, 1) := by decide +kernel
theorem dX3_tickOn_6 : decode cX3_tickOn 6 = .ok (.if_icmp .ge 60, 3) := by decide +kernel
theorem dX3_tickOn_9 : decode cX3_tickOn 9 = .ok (.aload_n 0, 1) := by decide +kernel
theorem dX3_tickOn_10 : decode cX3_tickOn 10 = .ok (.aload_n 1, 1) := by decide +kernel
theorem dX3_tickOn_11 : decode cX3_tickOn 11 = .ok (.iload_n 2, 1) := by decide +kernel
theorem dX3_tickOn_12 : decode cX3_tickOn 12 = .ok (.invokevirtual 89, 3) := by decide +kernel
theorem dX3_tickOn_15 : decode cX3_tickOn 15 = .ok (.aload_n 1, 1) := by decide +kernel
theorem dX3_tickOn_16 : decode cX3_tickOn 16 = .ok (.iload_n 2, 1) := by decide +kernel
theorem dX3_tickOn_17 : decode cX3_tickOn 17 = .ok (.invokestatic 92, 3) := by decide +kernel
theorem dX3_tickOn_20 : decode cX3_tickOn 20 = .ok (.aload_n 1, 1) := by decide +kernel
theorem dX3_tickOn_21 : decode cX3_tickOn 21 = .ok (.iload_n 2, 1) := by decide +kernel
theorem dX3_tickOn_22 : decode cX3_tickOn 22 = .ok (.invokestatic 95, 3) := by decide +kernel
theorem dX3_tickOn_25 : decode cX3_tickOn 25 = .ok (.aload_n 0, 1) := by decide +kernel
theorem dX3_tickOn_26 : decode cX3_tickOn 26 = .ok (.dup, 1) := by decide +kernel
theorem dX3_tickOn_27 : decode cX3_tickOn 27 = .ok (.getfield 98, 3) := by decide +kernel
theorem dX3_tickOn_30 : decode cX3_tickOn 30 = .ok (.aload_n 1, 1) := by decide +kernel
theorem dX3_tickOn_31 : decode cX3_tickOn 31 = .ok (.iload_n 2, 1) := by decide +kernel
theorem dX3_tickOn_32 : decode cX3_tickOn 32 = .ok (.iconst 1, 1) := by decide +kernel
theorem dX3_tickOn_33 : decode cX3_tickOn 33 = .ok (.invokestatic 48, 3) := by decide +kernel
theorem dX3_tickOn_36 : decode cX3_tickOn 36 = .ok (.iconst 4, 1) := by decide +kernel
theorem dX3_tickOn_37 : decode cX3_tickOn 37 = .ok (.if_icmp .ne 7, 3) := by decide +kernel
theorem dX3_tickOn_40 : decode cX3_tickOn 40 = .ok (.iconst 1, 1) := by decide +kernel
theorem dX3_tickOn_41 : decode cX3_tickOn 41 = .ok (.goto 4, 3) := by decide +kernel
theorem dX3_tickOn_44 : decode cX3_tickOn 44 = .ok (.iconst 0, 1) := by decide +kernel
theorem dX3_tickOn_45 : decode cX3_tickOn 45 = .ok (.iadd, 1) := by decide +kernel
theorem dX3_tickOn_46 : decode cX3_tickOn 46 = .ok (.putfield 98, 3) := by decide +kernel
theorem dX3_tickOn_49 : decode cX3_tickOn 49 = .ok (.aload_n 1, 1) := by decide +kernel
theorem dX3_tickOn_50 : decode cX3_tickOn 50 = .ok (.iload_n 2, 1) := by decide +kernel
theorem dX3_tickOn_51 : decode cX3_tickOn 51 = .ok (.invokestatic 101, 3) := by decide +kernel
theorem dX3_tickOn_54 : decode cX3_tickOn 54 = .ok (.aload_n 0, 1) := by decide +kernel
theorem dX3_tickOn_55 : decode cX3_tickOn 55 = .ok (.aload_n 1, 1) := by decide +kernel
theorem dX3_tickOn_56 : decode cX3_tickOn 56 = .ok (.iload_n 2, 1) := by decide +kernel
theorem dX3_tickOn_57 : decode cX3_tickOn 57 = .ok (.invokevirtual 104, 3) := by decide +kernel
theorem dX3_tickOn_60 : decode cX3_tickOn 60 = .ok (.iinc 2 1, 3) := by decide +kernel
theorem dX3_tickOn_63 : decode cX3_tickOn 63 = .ok (.goto (-61), 3) := by decide +kernel
theorem dX3_tickOn_66 : decode cX3_tickOn 66 = .ok (.aload_n 1, 1) := by decide +kernel
theorem dX3_tickOn_67 : decode cX3_tickOn 67 = .ok (.iconst 1, 1) := by decide +kernel
theorem dX3_tickOn_68 : decode cX3_tickOn 68 = .ok (.dup2, 1) := by decide +kernel
theorem dX3_tickOn_69 : decode cX3_tickOn 69 = .ok (.iaload, 1) := by decide +kernel
theorem dX3_tickOn_70 : decode cX3_tickOn 70 = .ok (.iconst 1, 1) := by decide +kernel
theorem dX3_tickOn_71 : decode cX3_tickOn 71 = .ok (.iadd, 1) := by decide +kernel
theorem dX3_tickOn_72 : decode cX3_tickOn 72 = .ok (.iastore, 1) := by decide +kernel
theorem dX3_tickOn_73 : decode cX3_tickOn 73 = .ok (.return_, 1) := by decide +kernel
theorem dX3_runOn_0 : decode cX3_runOn 0 = .ok (.aload_n 1, 1) := by decide +kernel
theorem dX3_runOn_1 : decode cX3_runOn 1 = .ok (.iconst 3, 1) := by decide +kernel
theorem dX3_runOn_2 : decode cX3_runOn 2 = .ok (.iaload, 1) := by decide +kernel
theorem dX3_runOn_3 : decode cX3_runOn 3 = .ok (.aload_n 1, 1) := by decide +kernel
theorem dX3_runOn_4 : decode cX3_runOn 4 = .ok (.iconst 4, 1) := by decide +kernel
theorem dX3_runOn_5 : decode cX3_runOn 5 = .ok (.iaload, 1) := by decide +kernel
theorem dX3_runOn_6 : decode cX3_runOn 6 = .ok (.iadd, 1) := by decide +kernel
theorem dX3_runOn_7 : decode cX3_runOn 7 = .ok (.istore_n 3, 1) := by decide +kernel
theorem dX3_runOn_8 : decode cX3_runOn 8 = .ok (.iconst 0, 1) := by decide +kernel
theorem dX3_runOn_9 : decode cX3_runOn 9 = .ok (.istore 4, 2) := by decide +kernel
theorem dX3_runOn_11 : decode cX3_runOn 11 = .ok (.iload 4, 2) := by decide +kernel
theorem dX3_runOn_13 : decode cX3_runOn 13 = .ok (.iload_n 2, 1) := by decide +kernel
theorem dX3_runOn_14 : decode cX3_runOn 14 = .ok (.if_icmp .ge 14, 3) := by decide +kernel
theorem dX3_runOn_17 : decode cX3_runOn 17 = .ok (.aload_n 0, 1) := by decide +kernel
theorem dX3_runOn_18 : decode cX3_runOn 18 = .ok (.aload_n 1, 1) := by decide +kernel
theorem dX3_runOn_19 : decode cX3_runOn 19 = .ok (.invokevirtual 107, 3) := by decide +kernel
theorem dX3_runOn_22 : decode cX3_runOn 22 = .ok (.iinc 4 1, 3) := by decide +kernel
theorem dX3_runOn_25 : decode cX3_runOn 25 = .ok (.goto (-14), 3) := by decide +kernel
theorem dX3_runOn_28 : decode cX3_runOn 28 = .ok (.aload_n 1, 1) := by decide +kernel
theorem dX3_runOn_29 : decode cX3_runOn 29 = .ok (.iconst 3, 1) := by decide +kernel
theorem dX3_runOn_30 : decode cX3_runOn 30 = .ok (.iaload, 1) := by decide +kernel
theorem dX3_runOn_31 : decode cX3_runOn 31 = .ok (.aload_n 1, 1) := by decide +kernel
theorem dX3_runOn_32 : decode cX3_runOn 32 = .ok (.iconst 4, 1) := by decide +kernel
theorem dX3_runOn_33 : decode cX3_runOn 33 = .ok (.iaload, 1) := by decide +kernel
theorem dX3_runOn_34 : decode cX3_runOn 34 = .ok (.iadd, 1) := by decide +kernel
theorem dX3_runOn_35 : decode cX3_runOn 35 = .ok (.iload_n 3, 1) := by decide +kernel
theorem dX3_runOn_36 : decode cX3_runOn 36 = .ok (.isub, 1) := by decide +kernel
theorem dX3_runOn_37 : decode cX3_runOn 37 = .ok (.ireturn, 1) := by decide +kernel
theorem dX3_laneOn_0 : decode cX3_laneOn 0 = .ok (.aload_n 0, 1) := by decide +kernel
theorem dX3_laneOn_1 : decode cX3_laneOn 1 = .ok (.iconst 0, 1) := by decide +kernel
theorem dX3_laneOn_2 : decode cX3_laneOn 2 = .ok (.iaload, 1) := by decide +kernel
theorem dX3_laneOn_3 : decode cX3_laneOn 3 = .ok (.istore_n 1, 1) := by decide +kernel
theorem dX3_laneOn_4 : decode cX3_laneOn 4 = .ok (.iconst 0, 1) := by decide +kernel
theorem dX3_laneOn_5 : decode cX3_laneOn 5 = .ok (.istore_n 2, 1) := by decide +kernel
theorem dX3_laneOn_6 : decode cX3_laneOn 6 = .ok (.iload_n 2, 1) := by decide +kernel
theorem dX3_laneOn_7 : decode cX3_laneOn 7 = .ok (.bipush 37, 2) := by decide +kernel
theorem dX3_laneOn_9 : decode cX3_laneOn 9 = .ok (.if_icmp .ge 16, 3) := by decide +kernel
theorem dX3_laneOn_12 : decode cX3_laneOn 12 = .ok (.aload_n 0, 1) := by decide +kernel
theorem dX3_laneOn_13 : decode cX3_laneOn 13 = .ok (.iload_n 1, 1) := by decide +kernel
theorem dX3_laneOn_14 : decode cX3_laneOn 14 = .ok (.iload_n 2, 1) := by decide +kernel
theorem dX3_laneOn_15 : decode cX3_laneOn 15 = .ok (.iconst 0, 1) := by decide +kernel
theorem dX3_laneOn_16 : decode cX3_laneOn 16 = .ok (.invokestatic 67, 3) := by decide +kernel
theorem dX3_laneOn_19 : decode cX3_laneOn 19 = .ok (.iinc 2 1, 3) := by decide +kernel
theorem dX3_laneOn_22 : decode cX3_laneOn 22 = .ok (.goto (-16), 3) := by decide +kernel
theorem dX3_laneOn_25 : decode cX3_laneOn 25 = .ok (.aload_n 0, 1) := by decide +kernel
theorem dX3_laneOn_26 : decode cX3_laneOn 26 = .ok (.iload_n 1, 1) := by decide +kernel
theorem dX3_laneOn_27 : decode cX3_laneOn 27 = .ok (.iconst 3, 1) := by decide +kernel
theorem dX3_laneOn_28 : decode cX3_laneOn 28 = .ok (.bipush 48, 2) := by decide +kernel
theorem dX3_laneOn_30 : decode cX3_laneOn 30 = .ok (.invokestatic 67, 3) := by decide +kernel
theorem dX3_laneOn_33 : decode cX3_laneOn 33 = .ok (.aload_n 0, 1) := by decide +kernel
theorem dX3_laneOn_34 : decode cX3_laneOn 34 = .ok (.iconst 0, 1) := by decide +kernel
theorem dX3_laneOn_35 : decode cX3_laneOn 35 = .ok (.dup2, 1) := by decide +kernel
theorem dX3_laneOn_36 : decode cX3_laneOn 36 = .ok (.iaload, 1) := by decide +kernel
theorem dX3_laneOn_37 : decode cX3_laneOn 37 = .ok (.iconst 1, 1) := by decide +kernel
theorem dX3_laneOn_38 : decode cX3_laneOn 38 = .ok (.iadd, 1) := by decide +kernel
theorem dX3_laneOn_39 : decode cX3_laneOn 39 = .ok (.iastore, 1) := by decide +kernel
theorem dX3_laneOn_40 : decode cX3_laneOn 40 = .ok (.iload_n 1, 1) := by decide +kernel
theorem dX3_laneOn_41 : decode cX3_laneOn 41 = .ok (.ireturn, 1) := by decide +kernel
theorem dX3_isLength_0 : decode cX3_isLength 0 = .ok (.iload_n 0, 1) := by decide +kernel
theorem dX3_isLength_1 : decode cX3_isLength 1 = .ok (.i2l, 1) := by decide +kernel
theorem dX3_isLength_2 : decode cX3_isLength 2 = .ok (.ldc2_w 110, 3) := by decide +kernel
theorem dX3_isLength_5 : decode cX3_isLength 5 = .ok (.ldc2_w 112, 3) := by decide +kernel
theorem dX3_isLength_8 : decode cX3_isLength 8 = .ok (.invokestatic 40, 3) := by decide +kernel
theorem dX3_isLength_11 : decode cX3_isLength 11 = .ok (.ireturn, 1) := by decide +kernel
theorem dX3_canArrive_0 : decode cX3_canArrive 0 = .ok (.aload_n 0, 1) := by decide +kernel
theorem dX3_canArrive_1 : decode cX3_canArrive 1 = .ok (.iload_n 1, 1) := by decide +kernel
theorem dX3_canArrive_2 : decode cX3_canArrive 2 = .ok (.invokestatic 44, 3) := by decide +kernel
theorem dX3_canArrive_5 : decode cX3_canArrive 5 = .ok (.ifCond .eq 25, 3) := by decide +kernel
theorem dX3_canArrive_8 : decode cX3_canArrive 8 = .ok (.iload_n 2, 1) := by decide +kernel
theorem dX3_canArrive_9 : decode cX3_canArrive 9 = .ok (.invokestatic 114, 3) := by decide +kernel
theorem dX3_canArrive_12 : decode cX3_canArrive 12 = .ok (.ifCond .eq 18, 3) := by decide +kernel
theorem dX3_canArrive_15 : decode cX3_canArrive 15 = .ok (.aload_n 0, 1) := by decide +kernel
theorem dX3_canArrive_16 : decode cX3_canArrive 16 = .ok (.iload_n 1, 1) := by decide +kernel
theorem dX3_canArrive_17 : decode cX3_canArrive 17 = .ok (.iconst 0, 1) := by decide +kernel
theorem dX3_canArrive_18 : decode cX3_canArrive 18 = .ok (.invokestatic 48, 3) := by decide +kernel
theorem dX3_canArrive_21 : decode cX3_canArrive 21 = .ok (.bipush 6, 2) := by decide +kernel
theorem dX3_canArrive_23 : decode cX3_canArrive 23 = .ok (.if_icmp .ge 7, 3) := by decide +kernel
theorem dX3_canArrive_26 : decode cX3_canArrive 26 = .ok (.iconst 1, 1) := by decide +kernel
theorem dX3_canArrive_27 : decode cX3_canArrive 27 = .ok (.goto 4, 3) := by decide +kernel
theorem dX3_canArrive_30 : decode cX3_canArrive 30 = .ok (.iconst 0, 1) := by decide +kernel
theorem dX3_canArrive_31 : decode cX3_canArrive 31 = .ok (.ireturn, 1) := by decide +kernel
theorem dX3_arriveOn_0 : decode cX3_arriveOn 0 = .ok (.aload_n 0, 1) := by decide +kernel
theorem dX3_arriveOn_1 : decode cX3_arriveOn 1 = .ok (.iload_n 1, 1) := by decide +kernel
theorem dX3_arriveOn_2 : decode cX3_arriveOn 2 = .ok (.iconst 0, 1) := by decide +kernel
theorem dX3_arriveOn_3 : decode cX3_arriveOn 3 = .ok (.invokestatic 48, 3) := by decide +kernel
theorem dX3_arriveOn_6 : decode cX3_arriveOn 6 = .ok (.istore 5, 2) := by decide +kernel
theorem dX3_arriveOn_8 : decode cX3_arriveOn 8 = .ok (.iload 5, 2) := by decide +kernel
theorem dX3_arriveOn_10 : decode cX3_arriveOn 10 = .ok (.ifCond .ne 7, 3) := by decide +kernel
theorem dX3_arriveOn_13 : decode cX3_arriveOn 13 = .ok (.iconst (-1), 1) := by decide +kernel
theorem dX3_arriveOn_14 : decode cX3_arriveOn 14 = .ok (.goto 14, 3) := by decide +kernel
theorem dX3_arriveOn_17 : decode cX3_arriveOn 17 = .ok (.aload_n 0, 1) := by decide +kernel
theorem dX3_arriveOn_18 : decode cX3_arriveOn 18 = .ok (.iload_n 1, 1) := by decide +kernel
theorem dX3_arriveOn_19 : decode cX3_arriveOn 19 = .ok (.iload 5, 2) := by decide +kernel
theorem dX3_arriveOn_21 : decode cX3_arriveOn 21 = .ok (.iconst 1, 1) := by decide +kernel
theorem dX3_arriveOn_22 : decode cX3_arriveOn 22 = .ok (.isub, 1) := by decide +kernel
theorem dX3_arriveOn_23 : decode cX3_arriveOn 23 = .ok (.invokestatic 60, 3) := by decide +kernel
theorem dX3_arriveOn_26 : decode cX3_arriveOn 26 = .ok (.iconst 2, 1) := by decide +kernel
theorem dX3_arriveOn_27 : decode cX3_arriveOn 27 = .ok (.isub, 1) := by decide +kernel
theorem dX3_arriveOn_28 : decode cX3_arriveOn 28 = .ok (.istore 6, 2) := by decide +kernel
theorem dX3_arriveOn_30 : decode cX3_arriveOn 30 = .ok (.aload_n 0, 1) := by decide +kernel
theorem dX3_arriveOn_31 : decode cX3_arriveOn 31 = .ok (.iload_n 1, 1) := by decide +kernel
theorem dX3_arriveOn_32 : decode cX3_arriveOn 32 = .ok (.iload 5, 2) := by decide +kernel
theorem dX3_arriveOn_34 : decode cX3_arriveOn 34 = .ok (.iconst 0, 1) := by decide +kernel
theorem dX3_arriveOn_35 : decode cX3_arriveOn 35 = .ok (.invokestatic 52, 3) := by decide +kernel
theorem dX3_arriveOn_38 : decode cX3_arriveOn 38 = .ok (.iload_n 2, 1) := by decide +kernel
theorem dX3_arriveOn_39 : decode cX3_arriveOn 39 = .ok (.invokestatic 67, 3) := by decide +kernel
theorem dX3_arriveOn_42 : decode cX3_arriveOn 42 = .ok (.aload_n 0, 1) := by decide +kernel
theorem dX3_arriveOn_43 : decode cX3_arriveOn 43 = .ok (.iload_n 1, 1) := by decide +kernel
theorem dX3_arriveOn_44 : decode cX3_arriveOn 44 = .ok (.iload 5, 2) := by decide +kernel
theorem dX3_arriveOn_46 : decode cX3_arriveOn 46 = .ok (.iconst 1, 1) := by decide +kernel
theorem dX3_arriveOn_47 : decode cX3_arriveOn 47 = .ok (.invokestatic 52, 3) := by decide +kernel
theorem dX3_arriveOn_50 : decode cX3_arriveOn 50 = .ok (.iload 6, 2) := by decide +kernel
theorem dX3_arriveOn_52 : decode cX3_arriveOn 52 = .ok (.iconst (-1), 1) := by decide +kernel
theorem dX3_arriveOn_53 : decode cX3_arriveOn 53 = .ok (.if_icmp .ge 8, 3) := by decide +kernel
theorem dX3_arriveOn_56 : decode cX3_arriveOn 56 = .ok (.iload 6, 2) := by decide +kernel
theorem dX3_arriveOn_58 : decode cX3_arriveOn 58 = .ok (.goto 4, 3) := by decide +kernel
theorem dX3_arriveOn_61 : decode cX3_arriveOn 61 = .ok (.iconst (-1), 1) := by decide +kernel
theorem dX3_arriveOn_62 : decode cX3_arriveOn 62 = .ok (.invokestatic 67, 3) := by decide +kernel
theorem dX3_arriveOn_65 : decode cX3_arriveOn 65 = .ok (.aload_n 0, 1) := by decide +kernel
theorem dX3_arriveOn_66 : decode cX3_arriveOn 66 = .ok (.iload_n 1, 1) := by decide +kernel
theorem dX3_arriveOn_67 : decode cX3_arriveOn 67 = .ok (.iload 5, 2) := by decide +kernel
theorem dX3_arriveOn_69 : decode cX3_arriveOn 69 = .ok (.iconst 2, 1) := by decide +kernel
theorem dX3_arriveOn_70 : decode cX3_arriveOn 70 = .ok (.invokestatic 52, 3) := by decide +kernel
theorem dX3_arriveOn_73 : decode cX3_arriveOn 73 = .ok (.iload_n 3, 1) := by decide +kernel
theorem dX3_arriveOn_74 : decode cX3_arriveOn 74 = .ok (.ifCond .eq 7, 3) := by decide +kernel
theorem dX3_arriveOn_77 : decode cX3_arriveOn 77 = .ok (.iconst 1, 1) := by decide +kernel
theorem dX3_arriveOn_78 : decode cX3_arriveOn 78 = .ok (.goto 4, 3) := by decide +kernel
theorem dX3_arriveOn_81 : decode cX3_arriveOn 81 = .ok (.iconst 0, 1) := by decide +kernel
theorem dX3_arriveOn_82 : decode cX3_arriveOn 82 = .ok (.invokestatic 67, 3) := by decide +kernel
theorem dX3_arriveOn_85 : decode cX3_arriveOn 85 = .ok (.aload_n 0, 1) := by decide +kernel
theorem dX3_arriveOn_86 : decode cX3_arriveOn 86 = .ok (.iload_n 1, 1) := by decide +kernel
theorem dX3_arriveOn_87 : decode cX3_arriveOn 87 = .ok (.iload 5, 2) := by decide +kernel
theorem dX3_arriveOn_89 : decode cX3_arriveOn 89 = .ok (.iconst 3, 1) := by decide +kernel
theorem dX3_arriveOn_90 : decode cX3_arriveOn 90 = .ok (.invokestatic 52, 3) := by decide +kernel
theorem dX3_arriveOn_93 : decode cX3_arriveOn 93 = .ok (.iload 4, 2) := by decide +kernel
theorem dX3_arriveOn_95 : decode cX3_arriveOn 95 = .ok (.ifCond .eq 7, 3) := by decide +kernel
theorem dX3_arriveOn_98 : decode cX3_arriveOn 98 = .ok (.iconst 1, 1) := by decide +kernel
theorem dX3_arriveOn_99 : decode cX3_arriveOn 99 = .ok (.goto 4, 3) := by decide +kernel
theorem dX3_arriveOn_102 : decode cX3_arriveOn 102 = .ok (.iconst 0, 1) := by decide +kernel
theorem dX3_arriveOn_103 : decode cX3_arriveOn 103 = .ok (.invokestatic 67, 3) := by decide +kernel
theorem dX3_arriveOn_106 : decode cX3_arriveOn 106 = .ok (.aload_n 0, 1) := by decide +kernel
theorem dX3_arriveOn_107 : decode cX3_arriveOn 107 = .ok (.iload_n 1, 1) := by decide +kernel
theorem dX3_arriveOn_108 : decode cX3_arriveOn 108 = .ok (.iload 5, 2) := by decide +kernel
theorem dX3_arriveOn_110 : decode cX3_arriveOn 110 = .ok (.iconst 4, 1) := by decide +kernel
theorem dX3_arriveOn_111 : decode cX3_arriveOn 111 = .ok (.invokestatic 52, 3) := by decide +kernel
theorem dX3_arriveOn_114 : decode cX3_arriveOn 114 = .ok (.iconst 0, 1) := by decide +kernel
theorem dX3_arriveOn_115 : decode cX3_arriveOn 115 = .ok (.invokestatic 67, 3) := by decide +kernel
theorem dX3_arriveOn_118 : decode cX3_arriveOn 118 = .ok (.aload_n 0, 1) := by decide +kernel
theorem dX3_arriveOn_119 : decode cX3_arriveOn 119 = .ok (.iload_n 1, 1) := by decide +kernel
theorem dX3_arriveOn_120 : decode cX3_arriveOn 120 = .ok (.iconst 0, 1) := by decide +kernel
theorem dX3_arriveOn_121 : decode cX3_arriveOn 121 = .ok (.iload 5, 2) := by decide +kernel
theorem dX3_arriveOn_123 : decode cX3_arriveOn 123 = .ok (.iconst 1, 1) := by decide +kernel
theorem dX3_arriveOn_124 : decode cX3_arriveOn 124 = .ok (.iadd, 1) := by decide +kernel
theorem dX3_arriveOn_125 : decode cX3_arriveOn 125 = .ok (.invokestatic 67, 3) := by decide +kernel
theorem dX3_arriveOn_128 : decode cX3_arriveOn 128 = .ok (.iload 5, 2) := by decide +kernel
theorem dX3_arriveOn_130 : decode cX3_arriveOn 130 = .ok (.iconst 1, 1) := by decide +kernel
theorem dX3_arriveOn_131 : decode cX3_arriveOn 131 = .ok (.iadd, 1) := by decide +kernel
theorem dX3_arriveOn_132 : decode cX3_arriveOn 132 = .ok (.ireturn, 1) := by decide +kernel
theorem dX3_sum_0 : decode cX3_sum 0 = .ok (.iconst 0, 1) := by decide +kernel
theorem dX3_sum_1 : decode cX3_sum 1 = .ok (.istore_n 2, 1) := by decide +kernel
theorem dX3_sum_2 : decode cX3_sum 2 = .ok (.iconst 0, 1) := by decide +kernel
theorem dX3_sum_3 : decode cX3_sum 3 = .ok (.istore_n 3, 1) := by decide +kernel
theorem dX3_sum_4 : decode cX3_sum 4 = .ok (.iload_n 3, 1) := by decide +kernel
theorem dX3_sum_5 : decode cX3_sum 5 = .ok (.aload_n 0, 1) := by decide +kernel
theorem dX3_sum_6 : decode cX3_sum 6 = .ok (.iconst 0, 1) := by decide +kernel
theorem dX3_sum_7 : decode cX3_sum 7 = .ok (.iaload, 1) := by decide +kernel
theorem dX3_sum_8 : decode cX3_sum 8 = .ok (.if_icmp .ge 18, 3) := by decide +kernel
theorem dX3_sum_11 : decode cX3_sum 11 = .ok (.iload_n 2, 1) := by decide +kernel
theorem dX3_sum_12 : decode cX3_sum 12 = .ok (.aload_n 0, 1) := by decide +kernel
theorem dX3_sum_13 : decode cX3_sum 13 = .ok (.iload_n 3, 1) := by decide +kernel
theorem dX3_sum_14 : decode cX3_sum 14 = .ok (.iload_n 1, 1) := by decide +kernel
theorem dX3_sum_15 : decode cX3_sum 15 = .ok (.invokestatic 48, 3) := by decide +kernel
theorem dX3_sum_18 : decode cX3_sum 18 = .ok (.iadd, 1) := by decide +kernel
theorem dX3_sum_19 : decode cX3_sum 19 = .ok (.istore_n 2, 1) := by decide +kernel
theorem dX3_sum_20 : decode cX3_sum 20 = .ok (.iinc 3 1, 3) := by decide +kernel
theorem dX3_sum_23 : decode cX3_sum 23 = .ok (.goto (-19), 3) := by decide +kernel
theorem dX3_sum_26 : decode cX3_sum 26 = .ok (.iload_n 2, 1) := by decide +kernel
theorem dX3_sum_27 : decode cX3_sum 27 = .ok (.ireturn, 1) := by decide +kernel
theorem dX3_loopOn_0 : decode cX3_loopOn 0 = .ok (.aload_n 0, 1) := by decide +kernel
theorem dX3_loopOn_1 : decode cX3_loopOn 1 = .ok (.iload_n 1, 1) := by decide +kernel
theorem dX3_loopOn_2 : decode cX3_loopOn 2 = .ok (.iconst 4, 1) := by decide +kernel
theorem dX3_loopOn_3 : decode cX3_loopOn 3 = .ok (.iload_n 2, 1) := by decide +kernel
theorem dX3_loopOn_4 : decode cX3_loopOn 4 = .ok (.ifCond .eq 7, 3) := by decide +kernel
theorem dX3_loopOn_7 : decode cX3_loopOn 7 = .ok (.iconst 1, 1) := by decide +kernel
theorem dX3_loopOn_8 : decode cX3_loopOn 8 = .ok (.goto 4, 3) := by decide +kernel
theorem dX3_loopOn_11 : decode cX3_loopOn 11 = .ok (.iconst 0, 1) := by decide +kernel
theorem dX3_loopOn_12 : decode cX3_loopOn 12 = .ok (.invokestatic 67, 3) := by decide +kernel
theorem dX3_loopOn_15 : decode cX3_loopOn 15 = .ok (.aload_n 0, 1) := by decide +kernel
theorem dX3_loopOn_16 : decode cX3_loopOn 16 = .ok (.iconst 4, 1) := by decide +kernel
theorem dX3_loopOn_17 : decode cX3_loopOn 17 = .ok (.invokestatic 118, 3) := by decide +kernel
theorem dX3_loopOn_20 : decode cX3_loopOn 20 = .ok (.ireturn, 1) := by decide +kernel
theorem dX3_canMend_0 : decode cX3_canMend 0 = .ok (.aload_n 0, 1) := by decide +kernel
theorem dX3_canMend_1 : decode cX3_canMend 1 = .ok (.iload_n 1, 1) := by decide +kernel
theorem dX3_canMend_2 : decode cX3_canMend 2 = .ok (.invokestatic 44, 3) := by decide +kernel
theorem dX3_canMend_5 : decode cX3_canMend 5 = .ok (.ifCond .eq 25, 3) := by decide +kernel
theorem dX3_canMend_8 : decode cX3_canMend 8 = .ok (.aload_n 0, 1) := by decide +kernel
theorem dX3_canMend_9 : decode cX3_canMend 9 = .ok (.iload_n 1, 1) := by decide +kernel
theorem dX3_canMend_10 : decode cX3_canMend 10 = .ok (.iconst 5, 1) := by decide +kernel
theorem dX3_canMend_11 : decode cX3_canMend 11 = .ok (.invokestatic 48, 3) := by decide +kernel
theorem dX3_canMend_14 : decode cX3_canMend 14 = .ok (.iconst 1, 1) := by decide +kernel
theorem dX3_canMend_15 : decode cX3_canMend 15 = .ok (.if_icmp .ne 15, 3) := by decide +kernel
theorem dX3_canMend_18 : decode cX3_canMend 18 = .ok (.aload_n 0, 1) := by decide +kernel
theorem dX3_canMend_19 : decode cX3_canMend 19 = .ok (.iload_n 1, 1) := by decide +kernel
theorem dX3_canMend_20 : decode cX3_canMend 20 = .ok (.invokestatic 86, 3) := by decide +kernel
theorem dX3_canMend_23 : decode cX3_canMend 23 = .ok (.ifCond .ne 7, 3) := by decide +kernel
theorem dX3_canMend_26 : decode cX3_canMend 26 = .ok (.iconst 1, 1) := by decide +kernel
theorem dX3_canMend_27 : decode cX3_canMend 27 = .ok (.goto 4, 3) := by decide +kernel
theorem dX3_canMend_30 : decode cX3_canMend 30 = .ok (.iconst 0, 1) := by decide +kernel
theorem dX3_canMend_31 : decode cX3_canMend 31 = .ok (.ireturn, 1) := by decide +kernel
theorem dX3_mendOn_0 : decode cX3_mendOn 0 = .ok (.aload_n 0, 1) := by decide +kernel
theorem dX3_mendOn_1 : decode cX3_mendOn 1 = .ok (.iload_n 1, 1) := by decide +kernel
theorem dX3_mendOn_2 : decode cX3_mendOn 2 = .ok (.iconst 5, 1) := by decide +kernel
theorem dX3_mendOn_3 : decode cX3_mendOn 3 = .ok (.iconst 0, 1) := by decide +kernel
theorem dX3_mendOn_4 : decode cX3_mendOn 4 = .ok (.invokestatic 67, 3) := by decide +kernel
theorem dX3_mendOn_7 : decode cX3_mendOn 7 = .ok (.aload_n 0, 1) := by decide +kernel
theorem dX3_mendOn_8 : decode cX3_mendOn 8 = .ok (.iload_n 1, 1) := by decide +kernel
theorem dX3_mendOn_9 : decode cX3_mendOn 9 = .ok (.iconst 1, 1) := by decide +kernel
theorem dX3_mendOn_10 : decode cX3_mendOn 10 = .ok (.invokestatic 48, 3) := by decide +kernel
theorem dX3_mendOn_13 : decode cX3_mendOn 13 = .ok (.ireturn, 1) := by decide +kernel
theorem dX3_isSetting_0 : decode cX3_isSetting 0 = .ok (.iload_n 0, 1) := by decide +kernel
theorem dX3_isSetting_1 : decode cX3_isSetting 1 = .ok (.ifCond .ne 15, 3) := by decide +kernel
theorem dX3_isSetting_4 : decode cX3_isSetting 4 = .ok (.iload_n 1, 1) := by decide +kernel
theorem dX3_isSetting_5 : decode cX3_isSetting 5 = .ok (.i2l, 1) := by decide +kernel
theorem dX3_isSetting_6 : decode cX3_isSetting 6 = .ok (.lconst 1, 1) := by decide +kernel
theorem dX3_isSetting_7 : decode cX3_isSetting 7 = .ok (.ldc2_w 121, 3) := by decide +kernel
theorem dX3_isSetting_10 : decode cX3_isSetting 10 = .ok (.invokestatic 40, 3) := by decide +kernel
theorem dX3_isSetting_13 : decode cX3_isSetting 13 = .ok (.ifCond .ne 37, 3) := by decide +kernel
theorem dX3_isSetting_16 : decode cX3_isSetting 16 = .ok (.iload_n 0, 1) := by decide +kernel
theorem dX3_isSetting_17 : decode cX3_isSetting 17 = .ok (.iconst 1, 1) := by decide +kernel
theorem dX3_isSetting_18 : decode cX3_isSetting 18 = .ok (.if_icmp .ne 15, 3) := by decide +kernel
theorem dX3_isSetting_21 : decode cX3_isSetting 21 = .ok (.iload_n 1, 1) := by decide +kernel
theorem dX3_isSetting_22 : decode cX3_isSetting 22 = .ok (.i2l, 1) := by decide +kernel
theorem dX3_isSetting_23 : decode cX3_isSetting 23 = .ok (.lconst 1, 1) := by decide +kernel
theorem dX3_isSetting_24 : decode cX3_isSetting 24 = .ok (.ldc2_w 123, 3) := by decide +kernel
theorem dX3_isSetting_27 : decode cX3_isSetting 27 = .ok (.invokestatic 40, 3) := by decide +kernel
theorem dX3_isSetting_30 : decode cX3_isSetting 30 = .ok (.ifCond .ne 20, 3) := by decide +kernel
theorem dX3_isSetting_33 : decode cX3_isSetting 33 = .ok (.iload_n 0, 1) := by decide +kernel
theorem dX3_isSetting_34 : decode cX3_isSetting 34 = .ok (.iconst 2, 1) := by decide +kernel
theorem dX3_isSetting_35 : decode cX3_isSetting 35 = .ok (.if_icmp .ne 19, 3) := by decide +kernel
theorem dX3_isSetting_38 : decode cX3_isSetting 38 = .ok (.iload_n 1, 1) := by decide +kernel
theorem dX3_isSetting_39 : decode cX3_isSetting 39 = .ok (.i2l, 1) := by decide +kernel
theorem dX3_isSetting_40 : decode cX3_isSetting 40 = .ok (.lconst 0, 1) := by decide +kernel
theorem dX3_isSetting_41 : decode cX3_isSetting 41 = .ok (.ldc2_w 121, 3) := by decide +kernel
theorem dX3_isSetting_44 : decode cX3_isSetting 44 = .ok (.invokestatic 40, 3) := by decide +kernel
theorem dX3_isSetting_47 : decode cX3_isSetting 47 = .ok (.ifCond .eq 7, 3) := by decide +kernel
theorem dX3_isSetting_50 : decode cX3_isSetting 50 = .ok (.iconst 1, 1) := by decide +kernel
theorem dX3_isSetting_51 : decode cX3_isSetting 51 = .ok (.goto 4, 3) := by decide +kernel
theorem dX3_isSetting_54 : decode cX3_isSetting 54 = .ok (.iconst 0, 1) := by decide +kernel
theorem dX3_isSetting_55 : decode cX3_isSetting 55 = .ok (.ireturn, 1) := by decide +kernel
theorem dX3_append_0 : decode cX3_append 0 = .ok (.aload_n 0, 1) := by decide +kernel
theorem dX3_append_1 : decode cX3_append 1 = .ok (.iload_n 1, 1) := by decide +kernel
theorem dX3_append_2 : decode cX3_append 2 = .ok (.i2l, 1) := by decide +kernel
theorem dX3_append_3 : decode cX3_append 3 = .ok (.lconst 0, 1) := by decide +kernel
theorem dX3_append_4 : decode cX3_append 4 = .ok (.ldc2_w 125, 3) := by decide +kernel
theorem dX3_append_7 : decode cX3_append 7 = .ok (.invokestatic 40, 3) := by decide +kernel
theorem dX3_append_10 : decode cX3_append 10 = .ok (.ifCond .ne 7, 3) := by decide +kernel
theorem dX3_append_13 : decode cX3_append 13 = .ok (.iconst 1, 1) := by decide +kernel
theorem dX3_append_14 : decode cX3_append 14 = .ok (.goto 17, 3) := by decide +kernel
theorem dX3_append_17 : decode cX3_append 17 = .ok (.aload_n 0, 1) := by decide +kernel
theorem dX3_append_18 : decode cX3_append 18 = .ok (.getfield 127, 3) := by decide +kernel
theorem dX3_append_21 : decode cX3_append 21 = .ok (.bipush 120, 2) := by decide +kernel
theorem dX3_append_23 : decode cX3_append 23 = .ok (.if_icmp .ne 7, 3) := by decide +kernel
theorem dX3_append_26 : decode cX3_append 26 = .ok (.iconst 2, 1) := by decide +kernel
theorem dX3_append_27 : decode cX3_append 27 = .ok (.goto 4, 3) := by decide +kernel
theorem dX3_append_30 : decode cX3_append 30 = .ok (.iconst 0, 1) := by decide +kernel
theorem dX3_append_31 : decode cX3_append 31 = .ok (.invokevirtual 130, 3) := by decide +kernel
theorem dX3_append_34 : decode cX3_append 34 = .ok (.ifCond .eq 5, 3) := by decide +kernel
theorem dX3_append_37 : decode cX3_append 37 = .ok (.iconst 0, 1) := by decide +kernel
theorem dX3_append_38 : decode cX3_append 38 = .ok (.ireturn, 1) := by decide +kernel
theorem dX3_append_39 : decode cX3_append 39 = .ok (.aload_n 0, 1) := by decide +kernel
theorem dX3_append_40 : decode cX3_append 40 = .ok (.getfield 7, 3) := by decide +kernel
theorem dX3_append_43 : decode cX3_append 43 = .ok (.aload_n 0, 1) := by decide +kernel
theorem dX3_append_44 : decode cX3_append 44 = .ok (.getfield 127, 3) := by decide +kernel
theorem dX3_append_47 : decode cX3_append 47 = .ok (.iload_n 1, 1) := by decide +kernel
theorem dX3_append_48 : decode cX3_append 48 = .ok (.iastore, 1) := by decide +kernel
theorem dX3_append_49 : decode cX3_append 49 = .ok (.aload_n 0, 1) := by decide +kernel
theorem dX3_append_50 : decode cX3_append 50 = .ok (.dup, 1) := by decide +kernel
theorem dX3_append_51 : decode cX3_append 51 = .ok (.getfield 127, 3) := by decide +kernel
theorem dX3_append_54 : decode cX3_append 54 = .ok (.iconst 1, 1) := by decide +kernel
theorem dX3_append_55 : decode cX3_append 55 = .ok (.iadd, 1) := by decide +kernel
theorem dX3_append_56 : decode cX3_append 56 = .ok (.putfield 127, 3) := by decide +kernel
theorem dX3_append_59 : decode cX3_append 59 = .ok (.aload_n 0, 1) := by decide +kernel
theorem dX3_append_60 : decode cX3_append 60 = .ok (.getfield 127, 3) := by decide +kernel
theorem dX3_append_63 : decode cX3_append 63 = .ok (.ireturn, 1) := by decide +kernel
theorem dX3_clearText_0 : decode cX3_clearText 0 = .ok (.aload_n 0, 1) := by decide +kernel
theorem dX3_clearText_1 : decode cX3_clearText 1 = .ok (.iconst 0, 1) := by decide +kernel
theorem dX3_clearText_2 : decode cX3_clearText 2 = .ok (.putfield 36, 3) := by decide +kernel
theorem dX3_clearText_5 : decode cX3_clearText 5 = .ok (.aload_n 0, 1) := by decide +kernel
theorem dX3_clearText_6 : decode cX3_clearText 6 = .ok (.getfield 127, 3) := by decide +kernel
theorem dX3_clearText_9 : decode cX3_clearText 9 = .ok (.istore_n 1, 1) := by decide +kernel
theorem dX3_clearText_10 : decode cX3_clearText 10 = .ok (.aload_n 0, 1) := by decide +kernel
theorem dX3_clearText_11 : decode cX3_clearText 11 = .ok (.iconst 0, 1) := by decide +kernel
theorem dX3_clearText_12 : decode cX3_clearText 12 = .ok (.putfield 127, 3) := by decide +kernel
theorem dX3_clearText_15 : decode cX3_clearText 15 = .ok (.iload_n 1, 1) := by decide +kernel
theorem dX3_clearText_16 : decode cX3_clearText 16 = .ok (.ireturn, 1) := by decide +kernel
theorem dX3_at_0 : decode cX3_at 0 = .ok (.iload_n 1, 1) := by decide +kernel
theorem dX3_at_1 : decode cX3_at 1 = .ok (.aload_n 0, 1) := by decide +kernel
theorem dX3_at_2 : decode cX3_at 2 = .ok (.getfield 127, 3) := by decide +kernel
theorem dX3_at_5 : decode cX3_at 5 = .ok (.if_icmp .ge 12, 3) := by decide +kernel
theorem dX3_at_8 : decode cX3_at 8 = .ok (.aload_n 0, 1) := by decide +kernel
theorem dX3_at_9 : decode cX3_at 9 = .ok (.getfield 7, 3) := by decide +kernel
theorem dX3_at_12 : decode cX3_at 12 = .ok (.iload_n 1, 1) := by decide +kernel
theorem dX3_at_13 : decode cX3_at 13 = .ok (.iaload, 1) := by decide +kernel
theorem dX3_at_14 : decode cX3_at 14 = .ok (.goto 4, 3) := by decide +kernel
theorem dX3_at_17 : decode cX3_at 17 = .ok (.iconst (-1), 1) := by decide +kernel
theorem dX3_at_18 : decode cX3_at 18 = .ok (.ireturn, 1) := by decide +kernel
theorem dX3_figures_0 : decode cX3_figures 0 = .ok (.iconst 0, 1) := by decide +kernel
theorem dX3_figures_1 : decode cX3_figures 1 = .ok (.istore 5, 2) := by decide +kernel
theorem dX3_figures_3 : decode cX3_figures 3 = .ok (.iload_n 2, 1) := by decide +kernel
theorem dX3_figures_4 : decode cX3_figures 4 = .ok (.iconst 2, 1) := by decide +kernel
theorem dX3_figures_5 : decode cX3_figures 5 = .ok (.if_icmp .ne 8, 3) := by decide +kernel
theorem dX3_figures_8 : decode cX3_figures 8 = .ok (.bipush 10, 2) := by decide +kernel
theorem dX3_figures_10 : decode cX3_figures 10 = .ok (.goto 4, 3) := by decide +kernel
theorem dX3_figures_13 : decode cX3_figures 13 = .ok (.iconst 1, 1) := by decide +kernel
theorem dX3_figures_14 : decode cX3_figures 14 = .ok (.istore 6, 2) := by decide +kernel
theorem dX3_figures_16 : decode cX3_figures 16 = .ok (.iload 6, 2) := by decide +kernel
theorem dX3_figures_18 : decode cX3_figures 18 = .ok (.ifCond .le 88, 3) := by decide +kernel
theorem dX3_figures_21 : decode cX3_figures 21 = .ok (.iload_n 1, 1) := by decide +kernel
theorem dX3_figures_22 : decode cX3_figures 22 = .ok (.iconst (-1), 1) := by decide +kernel
theorem dX3_figures_23 : decode cX3_figures 23 = .ok (.if_icmp .eq 83, 3) := by decide +kernel
theorem dX3_figures_26 : decode cX3_figures 26 = .ok (.aload_n 0, 1) := by decide +kernel
theorem dX3_figures_27 : decode cX3_figures 27 = .ok (.aload_n 0, 1) := by decide +kernel
theorem dX3_figures_28 : decode cX3_figures 28 = .ok (.getfield 133, 3) := by decide +kernel
theorem dX3_figures_31 : decode cX3_figures 31 = .ok (.invokevirtual 136, 3) := by decide +kernel
theorem dX3_figures_34 : decode cX3_figures 34 = .ok (.bipush 48, 2) := by decide +kernel
theorem dX3_figures_36 : decode cX3_figures 36 = .ok (.isub, 1) := by decide +kernel
theorem dX3_figures_37 : decode cX3_figures 37 = .ok (.istore 7, 2) := by decide +kernel
theorem dX3_figures_39 : decode cX3_figures 39 = .ok (.iload 5, 2) := by decide +kernel
theorem dX3_figures_41 : decode cX3_figures 41 = .ok (.iload 7, 2) := by decide +kernel
theorem dX3_figures_43 : decode cX3_figures 43 = .ok (.iload 6, 2) := by decide +kernel
theorem dX3_figures_45 : decode cX3_figures 45 = .ok (.imul, 1) := by decide +kernel
theorem dX3_figures_46 : decode cX3_figures 46 = .ok (.iadd, 1) := by decide +kernel
theorem dX3_figures_47 : decode cX3_figures 47 = .ok (.istore 8, 2) := by decide +kernel
theorem dX3_figures_49 : decode cX3_figures 49 = .ok (.iload 7, 2) := by decide +kernel
theorem dX3_figures_51 : decode cX3_figures 51 = .ok (.i2l, 1) := by decide +kernel
theorem dX3_figures_52 : decode cX3_figures 52 = .ok (.lconst 0, 1) := by decide +kernel
theorem dX3_figures_53 : decode cX3_figures 53 = .ok (.ldc2_w 140, 3) := by decide +kernel
theorem dX3_figures_56 : decode cX3_figures 56 = .ok (.invokestatic 40, 3) := by decide +kernel
theorem dX3_figures_59 : decode cX3_figures 59 = .ok (.ifCond .eq 21, 3) := by decide +kernel
theorem dX3_figures_62 : decode cX3_figures 62 = .ok (.iload 8, 2) := by decide +kernel
theorem dX3_figures_64 : decode cX3_figures 64 = .ok (.iload 4, 2) := by decide +kernel
theorem dX3_figures_66 : decode cX3_figures 66 = .ok (.if_icmp .gt 14, 3) := by decide +kernel
theorem dX3_figures_69 : decode cX3_figures 69 = .ok (.iload 8, 2) := by decide +kernel
theorem dX3_figures_71 : decode cX3_figures 71 = .ok (.iload 6, 2) := by decide +kernel
theorem dX3_figures_73 : decode cX3_figures 73 = .ok (.iadd, 1) := by decide +kernel
theorem dX3_figures_74 : decode cX3_figures 74 = .ok (.iconst 1, 1) := by decide +kernel
theorem dX3_figures_75 : decode cX3_figures 75 = .ok (.isub, 1) := by decide +kernel
theorem dX3_figures_76 : decode cX3_figures 76 = .ok (.iload_n 3, 1) := by decide +kernel
theorem dX3_figures_77 : decode cX3_figures 77 = .ok (.if_icmp .ge 5, 3) := by decide +kernel
theorem dX3_figures_80 : decode cX3_figures 80 = .ok (.iconst (-1), 1) := by decide +kernel
theorem dX3_figures_81 : decode cX3_figures 81 = .ok (.ireturn, 1) := by decide +kernel
theorem dX3_figures_82 : decode cX3_figures 82 = .ok (.iload 8, 2) := by decide +kernel
theorem dX3_figures_84 : decode cX3_figures 84 = .ok (.istore 5, 2) := by decide +kernel
theorem dX3_figures_86 : decode cX3_figures 86 = .ok (.aload_n 0, 1) := by decide +kernel
theorem dX3_figures_87 : decode cX3_figures 87 = .ok (.dup, 1) := by decide +kernel
theorem dX3_figures_88 : decode cX3_figures 88 = .ok (.getfield 133, 3) := by decide +kernel
theorem dX3_figures_91 : decode cX3_figures 91 = .ok (.iconst 1, 1) := by decide +kernel
theorem dX3_figures_92 : decode cX3_figures 92 = .ok (.iadd, 1) := by decide +kernel
theorem dX3_figures_93 : decode cX3_figures 93 = .ok (.putfield 133, 3) := by decide +kernel
theorem dX3_figures_96 : decode cX3_figures 96 = .ok (.iload 6, 2) := by decide +kernel
theorem dX3_figures_98 : decode cX3_figures 98 = .ok (.bipush 10, 2) := by decide +kernel
theorem dX3_figures_100 : decode cX3_figures 100 = .ok (.idiv, 1) := by decide +kernel
theorem dX3_figures_101 : decode cX3_figures 101 = .ok (.istore 6, 2) := by decide +kernel
theorem dX3_figures_103 : decode cX3_figures 103 = .ok (.goto (-87), 3) := by decide +kernel
theorem dX3_figures_106 : decode cX3_figures 106 = .ok (.iload_n 1, 1) := by decide +kernel
theorem dX3_figures_107 : decode cX3_figures 107 = .ok (.iconst (-1), 1) := by decide +kernel
theorem dX3_figures_108 : decode cX3_figures 108 = .ok (.if_icmp .ne 7, 3) := by decide +kernel
theorem dX3_figures_111 : decode cX3_figures 111 = .ok (.iconst (-1), 1) := by decide +kernel
theorem dX3_figures_112 : decode cX3_figures 112 = .ok (.goto 5, 3) := by decide +kernel
theorem dX3_figures_115 : decode cX3_figures 115 = .ok (.iload 5, 2) := by decide +kernel
theorem dX3_figures_117 : decode cX3_figures 117 = .ok (.ireturn, 1) := by decide +kernel
theorem dX3_sign_0 : decode cX3_sign 0 = .ok (.aload_n 0, 1) := by decide +kernel
theorem dX3_sign_1 : decode cX3_sign 1 = .ok (.aload_n 0, 1) := by decide +kernel
theorem dX3_sign_2 : decode cX3_sign 2 = .ok (.getfield 133, 3) := by decide +kernel
theorem dX3_sign_5 : decode cX3_sign 5 = .ok (.invokevirtual 136, 3) := by decide +kernel
theorem dX3_sign_8 : decode cX3_sign 8 = .ok (.iload_n 1, 1) := by decide +kernel
theorem dX3_sign_9 : decode cX3_sign 9 = .ok (.if_icmp .ne 7, 3) := by decide +kernel
theorem dX3_sign_12 : decode cX3_sign 12 = .ok (.iconst 1, 1) := by decide +kernel
theorem dX3_sign_13 : decode cX3_sign 13 = .ok (.goto 4, 3) := by decide +kernel
theorem dX3_sign_16 : decode cX3_sign 16 = .ok (.iconst 0, 1) := by decide +kernel
theorem dX3_sign_17 : decode cX3_sign 17 = .ok (.istore_n 2, 1) := by decide +kernel
theorem dX3_sign_18 : decode cX3_sign 18 = .ok (.aload_n 0, 1) := by decide +kernel
theorem dX3_sign_19 : decode cX3_sign 19 = .ok (.dup, 1) := by decide +kernel
theorem dX3_sign_20 : decode cX3_sign 20 = .ok (.getfield 133, 3) := by decide +kernel
theorem dX3_sign_23 : decode cX3_sign 23 = .ok (.iload_n 2, 1) := by decide +kernel
theorem dX3_sign_24 : decode cX3_sign 24 = .ok (.ifCond .eq 7, 3) := by decide +kernel
theorem dX3_sign_27 : decode cX3_sign 27 = .ok (.iconst 1, 1) := by decide +kernel
theorem dX3_sign_28 : decode cX3_sign 28 = .ok (.goto 4, 3) := by decide +kernel
theorem dX3_sign_31 : decode cX3_sign 31 = .ok (.iconst 0, 1) := by decide +kernel
theorem dX3_sign_32 : decode cX3_sign 32 = .ok (.iadd, 1) := by decide +kernel
theorem dX3_sign_33 : decode cX3_sign 33 = .ok (.putfield 133, 3) := by decide +kernel
theorem dX3_sign_36 : decode cX3_sign 36 = .ok (.iload_n 2, 1) := by decide +kernel
theorem dX3_sign_37 : decode cX3_sign 37 = .ok (.ireturn, 1) := by decide +kernel
theorem dX3_done_0 : decode cX3_done 0 = .ok (.aload_n 0, 1) := by decide +kernel
theorem dX3_done_1 : decode cX3_done 1 = .ok (.dup, 1) := by decide +kernel
theorem dX3_done_2 : decode cX3_done 2 = .ok (.getfield 142, 3) := by decide +kernel
theorem dX3_done_5 : decode cX3_done 5 = .ok (.iload_n 1, 1) := by decide +kernel
theorem dX3_done_6 : decode cX3_done 6 = .ok (.ifCond .eq 7, 3) := by decide +kernel
theorem dX3_done_9 : decode cX3_done 9 = .ok (.iconst 0, 1) := by decide +kernel
theorem dX3_done_10 : decode cX3_done 10 = .ok (.goto 4, 3) := by decide +kernel
theorem dX3_done_13 : decode cX3_done 13 = .ok (.iconst 1, 1) := by decide +kernel
theorem dX3_done_14 : decode cX3_done 14 = .ok (.iadd, 1) := by decide +kernel
theorem dX3_done_15 : decode cX3_done 15 = .ok (.putfield 142, 3) := by decide +kernel
theorem dX3_done_18 : decode cX3_done 18 = .ok (.iconst 1, 1) := by decide +kernel
theorem dX3_done_19 : decode cX3_done 19 = .ok (.ireturn, 1) := by decide +kernel
theorem dX3_readCommand_0 : decode cX3_readCommand 0 = .ok (.aload_n 0, 1) := by decide +kernel
theorem dX3_readCommand_1 : decode cX3_readCommand 1 = .ok (.getfield 7, 3) := by decide +kernel
theorem dX3_readCommand_4 : decode cX3_readCommand 4 = .ok (.aload_n 0, 1) := by decide +kernel
theorem dX3_readCommand_5 : decode cX3_readCommand 5 = .ok (.getfield 133, 3) := by decide +kernel
theorem dX3_readCommand_8 : decode cX3_readCommand 8 = .ok (.iaload, 1) := by decide +kernel
theorem dX3_readCommand_9 : decode cX3_readCommand 9 = .ok (.istore_n 2, 1) := by decide +kernel
theorem dX3_readCommand_10 : decode cX3_readCommand 10 = .ok (.aload_n 0, 1) := by decide +kernel
theorem dX3_readCommand_11 : decode cX3_readCommand 11 = .ok (.dup, 1) := by decide +kernel
theorem dX3_readCommand_12 : decode cX3_readCommand 12 = .ok (.getfield 133, 3) := by decide +kernel
theorem dX3_readCommand_15 : decode cX3_readCommand 15 = .ok (.iconst 1, 1) := by decide +kernel
theorem dX3_readCommand_16 : decode cX3_readCommand 16 = .ok (.iadd, 1) := by decide +kernel
theorem dX3_readCommand_17 : decode cX3_readCommand 17 = .ok (.putfield 133, 3) := by decide +kernel
theorem dX3_readCommand_20 : decode cX3_readCommand 20 = .ok (.iload_n 2, 1) := by decide +kernel
theorem dX3_readCommand_21 : decode cX3_readCommand 21 = .ok (.lookupswitch 326 #[(98, 187), (108, 51), (109, 236), (116, 284), (118, 75)], 51) := by decide +kernel
theorem dX3_readCommand_72 : decode cX3_readCommand 72 = .ok (.aload_n 0, 1) := by decide +kernel
theorem dX3_readCommand_73 : decode cX3_readCommand 73 = .ok (.aload_n 1, 1) := by decide +kernel
theorem dX3_readCommand_74 : decode cX3_readCommand 74 = .ok (.iconst 0, 1) := by decide +kernel
theorem dX3_readCommand_75 : decode cX3_readCommand 75 = .ok (.iaload, 1) := by decide +kernel
theorem dX3_readCommand_76 : decode cX3_readCommand 76 = .ok (.iconst 3, 1) := by decide +kernel
theorem dX3_readCommand_77 : decode cX3_readCommand 77 = .ok (.if_icmp .ge 14, 3) := by decide +kernel
theorem dX3_readCommand_80 : decode cX3_readCommand 80 = .ok (.aload_n 1, 1) := by decide +kernel
theorem dX3_readCommand_81 : decode cX3_readCommand 81 = .ok (.invokestatic 145, 3) := by decide +kernel
theorem dX3_readCommand_84 : decode cX3_readCommand 84 = .ok (.ifCond .lt 7, 3) := by decide +kernel
theorem dX3_readCommand_87 : decode cX3_readCommand 87 = .ok (.iconst 1, 1) := by decide +kernel
theorem dX3_readCommand_88 : decode cX3_readCommand 88 = .ok (.goto 4, 3) := by decide +kernel
theorem dX3_readCommand_91 : decode cX3_readCommand 91 = .ok (.iconst 0, 1) := by decide +kernel
theorem dX3_readCommand_92 : decode cX3_readCommand 92 = .ok (.invokevirtual 149, 3) := by decide +kernel
theorem dX3_readCommand_95 : decode cX3_readCommand 95 = .ok (.ireturn, 1) := by decide +kernel
theorem dX3_readCommand_96 : decode cX3_readCommand 96 = .ok (.aload_n 0, 1) := by decide +kernel
theorem dX3_readCommand_97 : decode cX3_readCommand 97 = .ok (.iconst 0, 1) := by decide +kernel
theorem dX3_readCommand_98 : decode cX3_readCommand 98 = .ok (.iconst 1, 1) := by decide +kernel
theorem dX3_readCommand_99 : decode cX3_readCommand 99 = .ok (.iconst 0, 1) := by decide +kernel
theorem dX3_readCommand_100 : decode cX3_readCommand 100 = .ok (.iconst 2, 1) := by decide +kernel
theorem dX3_readCommand_101 : decode cX3_readCommand 101 = .ok (.invokevirtual 153, 3) := by decide +kernel
theorem dX3_readCommand_104 : decode cX3_readCommand 104 = .ok (.istore_n 3, 1) := by decide +kernel
theorem dX3_readCommand_105 : decode cX3_readCommand 105 = .ok (.aload_n 0, 1) := by decide +kernel
theorem dX3_readCommand_106 : decode cX3_readCommand 106 = .ok (.iload_n 3, 1) := by decide +kernel
theorem dX3_readCommand_107 : decode cX3_readCommand 107 = .ok (.iconst 2, 1) := by decide +kernel
theorem dX3_readCommand_108 : decode cX3_readCommand 108 = .ok (.iconst 2, 1) := by decide +kernel
theorem dX3_readCommand_109 : decode cX3_readCommand 109 = .ok (.bipush 12, 2) := by decide +kernel
theorem dX3_readCommand_111 : decode cX3_readCommand 111 = .ok (.invokevirtual 153, 3) := by decide +kernel
theorem dX3_readCommand_114 : decode cX3_readCommand 114 = .ok (.istore 4, 2) := by decide +kernel
theorem dX3_readCommand_116 : decode cX3_readCommand 116 = .ok (.iload 4, 2) := by decide +kernel
theorem dX3_readCommand_118 : decode cX3_readCommand 118 = .ok (.iconst (-1), 1) := by decide +kernel
theorem dX3_readCommand_119 : decode cX3_readCommand 119 = .ok (.if_icmp .eq 16, 3) := by decide +kernel
theorem dX3_readCommand_122 : decode cX3_readCommand 122 = .ok (.aload_n 0, 1) := by decide +kernel
theorem dX3_readCommand_123 : decode cX3_readCommand 123 = .ok (.bipush 120, 2) := by decide +kernel
theorem dX3_readCommand_125 : decode cX3_readCommand 125 = .ok (.invokevirtual 157, 3) := by decide +kernel
theorem dX3_readCommand_128 : decode cX3_readCommand 128 = .ok (.ifCond .eq 7, 3) := by decide +kernel
theorem dX3_readCommand_131 : decode cX3_readCommand 131 = .ok (.iconst 1, 1) := by decide +kernel
theorem dX3_readCommand_132 : decode cX3_readCommand 132 = .ok (.goto 4, 3) := by decide +kernel
theorem dX3_readCommand_135 : decode cX3_readCommand 135 = .ok (.iconst 0, 1) := by decide +kernel
theorem dX3_readCommand_136 : decode cX3_readCommand 136 = .ok (.istore 5, 2) := by decide +kernel
theorem dX3_readCommand_138 : decode cX3_readCommand 138 = .ok (.iload 4, 2) := by decide +kernel
theorem dX3_readCommand_140 : decode cX3_readCommand 140 = .ok (.iconst (-1), 1) := by decide +kernel
theorem dX3_readCommand_141 : decode cX3_readCommand 141 = .ok (.if_icmp .eq 16, 3) := by decide +kernel
theorem dX3_readCommand_144 : decode cX3_readCommand 144 = .ok (.aload_n 0, 1) := by decide +kernel
theorem dX3_readCommand_145 : decode cX3_readCommand 145 = .ok (.bipush 102, 2) := by decide +kernel
theorem dX3_readCommand_147 : decode cX3_readCommand 147 = .ok (.invokevirtual 157, 3) := by decide +kernel
theorem dX3_readCommand_150 : decode cX3_readCommand 150 = .ok (.ifCond .eq 7, 3) := by decide +kernel
theorem dX3_readCommand_153 : decode cX3_readCommand 153 = .ok (.iconst 1, 1) := by decide +kernel
theorem dX3_readCommand_154 : decode cX3_readCommand 154 = .ok (.goto 4, 3) := by decide +kernel
theorem dX3_readCommand_157 : decode cX3_readCommand 157 = .ok (.iconst 0, 1) := by decide +kernel
theorem dX3_readCommand_158 : decode cX3_readCommand 158 = .ok (.istore 6, 2) := by decide +kernel
theorem dX3_readCommand_160 : decode cX3_readCommand 160 = .ok (.iload 4, 2) := by decide +kernel
theorem dX3_readCommand_162 : decode cX3_readCommand 162 = .ok (.iconst (-1), 1) := by decide +kernel
theorem dX3_readCommand_163 : decode cX3_readCommand 163 = .ok (.if_icmp .eq 43, 3) := by decide +kernel
theorem dX3_readCommand_166 : decode cX3_readCommand 166 = .ok (.aload_n 0, 1) := by decide +kernel
theorem dX3_readCommand_167 : decode cX3_readCommand 167 = .ok (.aload_n 1, 1) := by decide +kernel
theorem dX3_readCommand_168 : decode cX3_readCommand 168 = .ok (.iload_n 3, 1) := by decide +kernel
theorem dX3_readCommand_169 : decode cX3_readCommand 169 = .ok (.iload 4, 2) := by decide +kernel
theorem dX3_readCommand_171 : decode cX3_readCommand 171 = .ok (.invokestatic 160, 3) := by decide +kernel
theorem dX3_readCommand_174 : decode cX3_readCommand 174 = .ok (.ifCond .eq 21, 3) := by decide +kernel
theorem dX3_readCommand_177 : decode cX3_readCommand 177 = .ok (.aload_n 1, 1) := by decide +kernel
theorem dX3_readCommand_178 : decode cX3_readCommand 178 = .ok (.iload_n 3, 1) := by decide +kernel
theorem dX3_readCommand_179 : decode cX3_readCommand 179 = .ok (.iload 4, 2) := by decide +kernel
theorem dX3_readCommand_181 : decode cX3_readCommand 181 = .ok (.iload 5, 2) := by decide +kernel
theorem dX3_readCommand_183 : decode cX3_readCommand 183 = .ok (.iload 6, 2) := by decide +kernel
theorem dX3_readCommand_185 : decode cX3_readCommand 185 = .ok (.invokestatic 163, 3) := by decide +kernel
theorem dX3_readCommand_188 : decode cX3_readCommand 188 = .ok (.ifCond .le 7, 3) := by decide +kernel
theorem dX3_readCommand_191 : decode cX3_readCommand 191 = .ok (.iconst 1, 1) := by decide +kernel
theorem dX3_readCommand_192 : decode cX3_readCommand 192 = .ok (.goto 4, 3) := by decide +kernel
theorem dX3_readCommand_195 : decode cX3_readCommand 195 = .ok (.iconst 0, 1) := by decide +kernel
theorem dX3_readCommand_196 : decode cX3_readCommand 196 = .ok (.invokevirtual 149, 3) := by decide +kernel
theorem dX3_readCommand_199 : decode cX3_readCommand 199 = .ok (.ifCond .eq 7, 3) := by decide +kernel
theorem dX3_readCommand_202 : decode cX3_readCommand 202 = .ok (.iconst 1, 1) := by decide +kernel
theorem dX3_readCommand_203 : decode cX3_readCommand 203 = .ok (.goto 4, 3) := by decide +kernel
theorem dX3_readCommand_206 : decode cX3_readCommand 206 = .ok (.iconst 0, 1) := by decide +kernel
theorem dX3_readCommand_207 : decode cX3_readCommand 207 = .ok (.ireturn, 1) := by decide +kernel
theorem dX3_readCommand_208 : decode cX3_readCommand 208 = .ok (.aload_n 0, 1) := by decide +kernel
theorem dX3_readCommand_209 : decode cX3_readCommand 209 = .ok (.iconst 0, 1) := by decide +kernel
theorem dX3_readCommand_210 : decode cX3_readCommand 210 = .ok (.iconst 1, 1) := by decide +kernel
theorem dX3_readCommand_211 : decode cX3_readCommand 211 = .ok (.iconst 0, 1) := by decide +kernel
theorem dX3_readCommand_212 : decode cX3_readCommand 212 = .ok (.iconst 2, 1) := by decide +kernel
theorem dX3_readCommand_213 : decode cX3_readCommand 213 = .ok (.invokevirtual 153, 3) := by decide +kernel
theorem dX3_readCommand_216 : decode cX3_readCommand 216 = .ok (.istore_n 3, 1) := by decide +kernel
theorem dX3_readCommand_217 : decode cX3_readCommand 217 = .ok (.iload_n 3, 1) := by decide +kernel
theorem dX3_readCommand_218 : decode cX3_readCommand 218 = .ok (.iconst (-1), 1) := by decide +kernel
theorem dX3_readCommand_219 : decode cX3_readCommand 219 = .ok (.if_icmp .eq 36, 3) := by decide +kernel
theorem dX3_readCommand_222 : decode cX3_readCommand 222 = .ok (.aload_n 0, 1) := by decide +kernel
theorem dX3_readCommand_223 : decode cX3_readCommand 223 = .ok (.aload_n 1, 1) := by decide +kernel
theorem dX3_readCommand_224 : decode cX3_readCommand 224 = .ok (.iload_n 3, 1) := by decide +kernel
theorem dX3_readCommand_225 : decode cX3_readCommand 225 = .ok (.invokestatic 44, 3) := by decide +kernel
theorem dX3_readCommand_228 : decode cX3_readCommand 228 = .ok (.ifCond .eq 16, 3) := by decide +kernel
theorem dX3_readCommand_231 : decode cX3_readCommand 231 = .ok (.aload_n 1, 1) := by decide +kernel
theorem dX3_readCommand_232 : decode cX3_readCommand 232 = .ok (.iload_n 3, 1) := by decide +kernel
theorem dX3_readCommand_233 : decode cX3_readCommand 233 = .ok (.iconst 1, 1) := by decide +kernel
theorem dX3_readCommand_234 : decode cX3_readCommand 234 = .ok (.invokestatic 167, 3) := by decide +kernel
theorem dX3_readCommand_237 : decode cX3_readCommand 237 = .ok (.ifCond .le 7, 3) := by decide +kernel
theorem dX3_readCommand_240 : decode cX3_readCommand 240 = .ok (.iconst 1, 1) := by decide +kernel
theorem dX3_readCommand_241 : decode cX3_readCommand 241 = .ok (.goto 4, 3) := by decide +kernel
theorem dX3_readCommand_244 : decode cX3_readCommand 244 = .ok (.iconst 0, 1) := by decide +kernel
theorem dX3_readCommand_245 : decode cX3_readCommand 245 = .ok (.invokevirtual 149, 3) := by decide +kernel
theorem dX3_readCommand_248 : decode cX3_readCommand 248 = .ok (.ifCond .eq 7, 3) := by decide +kernel
theorem dX3_readCommand_251 : decode cX3_readCommand 251 = .ok (.iconst 1, 1) := by decide +kernel
theorem dX3_readCommand_252 : decode cX3_readCommand 252 = .ok (.goto 4, 3) := by decide +kernel
theorem dX3_readCommand_255 : decode cX3_readCommand 255 = .ok (.iconst 0, 1) := by decide +kernel
theorem dX3_readCommand_256 : decode cX3_readCommand 256 = .ok (.ireturn, 1) := by decide +kernel
theorem dX3_readCommand_257 : decode cX3_readCommand 257 = .ok (.aload_n 0, 1) := by decide +kernel
theorem dX3_readCommand_258 : decode cX3_readCommand 258 = .ok (.iconst 0, 1) := by decide +kernel
theorem dX3_readCommand_259 : decode cX3_readCommand 259 = .ok (.iconst 1, 1) := by decide +kernel
theorem dX3_readCommand_260 : decode cX3_readCommand 260 = .ok (.iconst 0, 1) := by decide +kernel
theorem dX3_readCommand_261 : decode cX3_readCommand 261 = .ok (.iconst 2, 1) := by decide +kernel
theorem dX3_readCommand_262 : decode cX3_readCommand 262 = .ok (.invokevirtual 153, 3) := by decide +kernel
theorem dX3_readCommand_265 : decode cX3_readCommand 265 = .ok (.istore_n 3, 1) := by decide +kernel
theorem dX3_readCommand_266 : decode cX3_readCommand 266 = .ok (.iload_n 3, 1) := by decide +kernel
theorem dX3_readCommand_267 : decode cX3_readCommand 267 = .ok (.iconst (-1), 1) := by decide +kernel
theorem dX3_readCommand_268 : decode cX3_readCommand 268 = .ok (.if_icmp .eq 35, 3) := by decide +kernel
theorem dX3_readCommand_271 : decode cX3_readCommand 271 = .ok (.aload_n 0, 1) := by decide +kernel
theorem dX3_readCommand_272 : decode cX3_readCommand 272 = .ok (.aload_n 1, 1) := by decide +kernel
theorem dX3_readCommand_273 : decode cX3_readCommand 273 = .ok (.iload_n 3, 1) := by decide +kernel
theorem dX3_readCommand_274 : decode cX3_readCommand 274 = .ok (.invokestatic 171, 3) := by decide +kernel
theorem dX3_readCommand_277 : decode cX3_readCommand 277 = .ok (.ifCond .eq 15, 3) := by decide +kernel
theorem dX3_readCommand_280 : decode cX3_readCommand 280 = .ok (.aload_n 1, 1) := by decide +kernel
theorem dX3_readCommand_281 : decode cX3_readCommand 281 = .ok (.iload_n 3, 1) := by decide +kernel
theorem dX3_readCommand_282 : decode cX3_readCommand 282 = .ok (.invokestatic 174, 3) := by decide +kernel
theorem dX3_readCommand_285 : decode cX3_readCommand 285 = .ok (.ifCond .lt 7, 3) := by decide +kernel
theorem dX3_readCommand_288 : decode cX3_readCommand 288 = .ok (.iconst 1, 1) := by decide +kernel
theorem dX3_readCommand_289 : decode cX3_readCommand 289 = .ok (.goto 4, 3) := by decide +kernel
theorem dX3_readCommand_292 : decode cX3_readCommand 292 = .ok (.iconst 0, 1) := by decide +kernel
theorem dX3_readCommand_293 : decode cX3_readCommand 293 = .ok (.invokevirtual 149, 3) := by decide +kernel
theorem dX3_readCommand_296 : decode cX3_readCommand 296 = .ok (.ifCond .eq 7, 3) := by decide +kernel
theorem dX3_readCommand_299 : decode cX3_readCommand 299 = .ok (.iconst 1, 1) := by decide +kernel
theorem dX3_readCommand_300 : decode cX3_readCommand 300 = .ok (.goto 4, 3) := by decide +kernel
theorem dX3_readCommand_303 : decode cX3_readCommand 303 = .ok (.iconst 0, 1) := by decide +kernel
theorem dX3_readCommand_304 : decode cX3_readCommand 304 = .ok (.ireturn, 1) := by decide +kernel
theorem dX3_readCommand_305 : decode cX3_readCommand 305 = .ok (.aload_n 0, 1) := by decide +kernel
theorem dX3_readCommand_306 : decode cX3_readCommand 306 = .ok (.iconst 0, 1) := by decide +kernel
theorem dX3_readCommand_307 : decode cX3_readCommand 307 = .ok (.iconst 2, 1) := by decide +kernel
theorem dX3_readCommand_308 : decode cX3_readCommand 308 = .ok (.iconst 1, 1) := by decide +kernel
theorem dX3_readCommand_309 : decode cX3_readCommand 309 = .ok (.bipush 60, 2) := by decide +kernel
theorem dX3_readCommand_311 : decode cX3_readCommand 311 = .ok (.invokevirtual 153, 3) := by decide +kernel
theorem dX3_readCommand_314 : decode cX3_readCommand 314 = .ok (.istore_n 3, 1) := by decide +kernel
theorem dX3_readCommand_315 : decode cX3_readCommand 315 = .ok (.iload_n 3, 1) := by decide +kernel
theorem dX3_readCommand_316 : decode cX3_readCommand 316 = .ok (.iconst (-1), 1) := by decide +kernel
theorem dX3_readCommand_317 : decode cX3_readCommand 317 = .ok (.if_icmp .eq 28, 3) := by decide +kernel
theorem dX3_readCommand_320 : decode cX3_readCommand 320 = .ok (.aload_n 0, 1) := by decide +kernel
theorem dX3_readCommand_321 : decode cX3_readCommand 321 = .ok (.aload_n 0, 1) := by decide +kernel
theorem dX3_readCommand_322 : decode cX3_readCommand 322 = .ok (.aload_n 1, 1) := by decide +kernel
theorem dX3_readCommand_323 : decode cX3_readCommand 323 = .ok (.iload_n 3, 1) := by decide +kernel
theorem dX3_readCommand_324 : decode cX3_readCommand 324 = .ok (.invokevirtual 177, 3) := by decide +kernel
theorem dX3_readCommand_327 : decode cX3_readCommand 327 = .ok (.ifCond .lt 7, 3) := by decide +kernel
theorem dX3_readCommand_330 : decode cX3_readCommand 330 = .ok (.iconst 1, 1) := by decide +kernel
theorem dX3_readCommand_331 : decode cX3_readCommand 331 = .ok (.goto 4, 3) := by decide +kernel
theorem dX3_readCommand_334 : decode cX3_readCommand 334 = .ok (.iconst 0, 1) := by decide +kernel
theorem dX3_readCommand_335 : decode cX3_readCommand 335 = .ok (.invokevirtual 149, 3) := by decide +kernel
theorem dX3_readCommand_338 : decode cX3_readCommand 338 = .ok (.ifCond .eq 7, 3) := by decide +kernel
theorem dX3_readCommand_341 : decode cX3_readCommand 341 = .ok (.iconst 1, 1) := by decide +kernel
theorem dX3_readCommand_342 : decode cX3_readCommand 342 = .ok (.goto 4, 3) := by decide +kernel
theorem dX3_readCommand_345 : decode cX3_readCommand 345 = .ok (.iconst 0, 1) := by decide +kernel
theorem dX3_readCommand_346 : decode cX3_readCommand 346 = .ok (.ireturn, 1) := by decide +kernel
theorem dX3_readCommand_347 : decode cX3_readCommand 347 = .ok (.aload_n 0, 1) := by decide +kernel
theorem dX3_readCommand_348 : decode cX3_readCommand 348 = .ok (.dup, 1) := by decide +kernel
theorem dX3_readCommand_349 : decode cX3_readCommand 349 = .ok (.getfield 133, 3) := by decide +kernel
theorem dX3_readCommand_352 : decode cX3_readCommand 352 = .ok (.iconst 1, 1) := by decide +kernel
theorem dX3_readCommand_353 : decode cX3_readCommand 353 = .ok (.isub, 1) := by decide +kernel
theorem dX3_readCommand_354 : decode cX3_readCommand 354 = .ok (.putfield 133, 3) := by decide +kernel
theorem dX3_readCommand_357 : decode cX3_readCommand 357 = .ok (.iconst 0, 1) := by decide +kernel
theorem dX3_readCommand_358 : decode cX3_readCommand 358 = .ok (.ireturn, 1) := by decide +kernel
theorem dX3_readText_0 : decode cX3_readText 0 = .ok (.aload_n 1, 1) := by decide +kernel
theorem dX3_readText_1 : decode cX3_readText 1 = .ok (.invokestatic 32, 3) := by decide +kernel
theorem dX3_readText_4 : decode cX3_readText 4 = .ok (.aload_n 0, 1) := by decide +kernel
theorem dX3_readText_5 : decode cX3_readText 5 = .ok (.iconst 0, 1) := by decide +kernel
theorem dX3_readText_6 : decode cX3_readText 6 = .ok (.putfield 142, 3) := by decide +kernel
theorem dX3_readText_9 : decode cX3_readText 9 = .ok (.aload_n 0, 1) := by decide +kernel
theorem dX3_readText_10 : decode cX3_readText 10 = .ok (.iconst 0, 1) := by decide +kernel
theorem dX3_readText_11 : decode cX3_readText 11 = .ok (.putfield 133, 3) := by decide +kernel
theorem dX3_readText_14 : decode cX3_readText 14 = .ok (.aload_n 0, 1) := by decide +kernel
theorem dX3_readText_15 : decode cX3_readText 15 = .ok (.iconst 0, 1) := by decide +kernel
theorem dX3_readText_16 : decode cX3_readText 16 = .ok (.invokevirtual 136, 3) := by decide +kernel
theorem dX3_readText_19 : decode cX3_readText 19 = .ok (.bipush 71, 2) := by decide +kernel
theorem dX3_readText_21 : decode cX3_readText 21 = .ok (.if_icmp .eq 5, 3) := by decide +kernel
theorem dX3_readText_24 : decode cX3_readText 24 = .ok (.iconst 0, 1) := by decide +kernel
theorem dX3_readText_25 : decode cX3_readText 25 = .ok (.ireturn, 1) := by decide +kernel
theorem dX3_readText_26 : decode cX3_readText 26 = .ok (.aload_n 0, 1) := by decide +kernel
theorem dX3_readText_27 : decode cX3_readText 27 = .ok (.iconst 1, 1) := by decide +kernel
theorem dX3_readText_28 : decode cX3_readText 28 = .ok (.putfield 133, 3) := by decide +kernel
theorem dX3_readText_31 : decode cX3_readText 31 = .ok (.aload_n 0, 1) := by decide +kernel
theorem dX3_readText_32 : decode cX3_readText 32 = .ok (.getfield 133, 3) := by decide +kernel
theorem dX3_readText_35 : decode cX3_readText 35 = .ok (.aload_n 0, 1) := by decide +kernel
theorem dX3_readText_36 : decode cX3_readText 36 = .ok (.getfield 127, 3) := by decide +kernel
theorem dX3_readText_39 : decode cX3_readText 39 = .ok (.if_icmp .ge 16, 3) := by decide +kernel
theorem dX3_readText_42 : decode cX3_readText 42 = .ok (.aload_n 0, 1) := by decide +kernel
theorem dX3_readText_43 : decode cX3_readText 43 = .ok (.aload_n 1, 1) := by decide +kernel
theorem dX3_readText_44 : decode cX3_readText 44 = .ok (.invokevirtual 180, 3) := by decide +kernel
theorem dX3_readText_47 : decode cX3_readText 47 = .ok (.ifCond .ne (-16), 3) := by decide +kernel
theorem dX3_readText_50 : decode cX3_readText 50 = .ok (.aload_n 0, 1) := by decide +kernel
theorem dX3_readText_51 : decode cX3_readText 51 = .ok (.getfield 133, 3) := by decide +kernel
theorem dX3_readText_54 : decode cX3_readText 54 = .ok (.ireturn, 1) := by decide +kernel
theorem dX3_readText_55 : decode cX3_readText 55 = .ok (.iconst (-1), 1) := by decide +kernel
theorem dX3_readText_56 : decode cX3_readText 56 = .ok (.ireturn, 1) := by decide +kernel
theorem dX3_errorPosition_0 : decode cX3_errorPosition 0 = .ok (.aload_n 0, 1) := by decide +kernel
theorem dX3_errorPosition_1 : decode cX3_errorPosition 1 = .ok (.iconst 0, 1) := by decide +kernel
theorem dX3_errorPosition_2 : decode cX3_errorPosition 2 = .ok (.putfield 36, 3) := by decide +kernel
theorem dX3_errorPosition_5 : decode cX3_errorPosition 5 = .ok (.aload_n 0, 1) := by decide +kernel
theorem dX3_errorPosition_6 : decode cX3_errorPosition 6 = .ok (.aload_n 0, 1) := by decide +kernel
theorem dX3_errorPosition_7 : decode cX3_errorPosition 7 = .ok (.getfield 16, 3) := by decide +kernel
theorem dX3_errorPosition_10 : decode cX3_errorPosition 10 = .ok (.invokevirtual 184, 3) := by decide +kernel
theorem dX3_errorPosition_13 : decode cX3_errorPosition 13 = .ok (.ireturn, 1) := by decide +kernel
theorem dX3_load_0 : decode cX3_load 0 = .ok (.aload_n 0, 1) := by decide +kernel
theorem dX3_load_1 : decode cX3_load 1 = .ok (.aload_n 0, 1) := by decide +kernel
theorem dX3_load_2 : decode cX3_load 2 = .ok (.aload_n 0, 1) := by decide +kernel
theorem dX3_load_3 : decode cX3_load 3 = .ok (.getfield 16, 3) := by decide +kernel
theorem dX3_load_6 : decode cX3_load 6 = .ok (.invokevirtual 184, 3) := by decide +kernel
theorem dX3_load_9 : decode cX3_load 9 = .ok (.iconst (-1), 1) := by decide +kernel
theorem dX3_load_10 : decode cX3_load 10 = .ok (.if_icmp .ne 7, 3) := by decide +kernel
theorem dX3_load_13 : decode cX3_load 13 = .ok (.iconst 0, 1) := by decide +kernel
theorem dX3_load_14 : decode cX3_load 14 = .ok (.goto 4, 3) := by decide +kernel
theorem dX3_load_17 : decode cX3_load 17 = .ok (.iconst 1, 1) := by decide +kernel
theorem dX3_load_18 : decode cX3_load 18 = .ok (.invokevirtual 130, 3) := by decide +kernel
theorem dX3_load_21 : decode cX3_load 21 = .ok (.ifCond .eq 5, 3) := by decide +kernel
theorem dX3_load_24 : decode cX3_load 24 = .ok (.iconst 0, 1) := by decide +kernel
theorem dX3_load_25 : decode cX3_load 25 = .ok (.ireturn, 1) := by decide +kernel
theorem dX3_load_26 : decode cX3_load 26 = .ok (.aload_n 0, 1) := by decide +kernel
theorem dX3_load_27 : decode cX3_load 27 = .ok (.getfield 16, 3) := by decide +kernel
theorem dX3_load_30 : decode cX3_load 30 = .ok (.iconst 0, 1) := by decide +kernel
theorem dX3_load_31 : decode cX3_load 31 = .ok (.aload_n 0, 1) := by decide +kernel
theorem dX3_load_32 : decode cX3_load 32 = .ok (.getfield 13, 3) := by decide +kernel
theorem dX3_load_35 : decode cX3_load 35 = .ok (.iconst 0, 1) := by decide +kernel
theorem dX3_load_36 : decode cX3_load 36 = .ok (.invokestatic 187, 3) := by decide +kernel
theorem dX3_load_39 : decode cX3_load 39 = .ok (.aload_n 0, 1) := by decide +kernel
theorem dX3_load_40 : decode cX3_load 40 = .ok (.iconst 0, 1) := by decide +kernel
theorem dX3_load_41 : decode cX3_load 41 = .ok (.putfield 191, 3) := by decide +kernel
theorem dX3_load_44 : decode cX3_load 44 = .ok (.aload_n 0, 1) := by decide +kernel
theorem dX3_load_45 : decode cX3_load 45 = .ok (.getfield 25, 3) := by decide +kernel
theorem dX3_load_48 : decode cX3_load 48 = .ok (.iconst 0, 1) := by decide +kernel
theorem dX3_load_49 : decode cX3_load 49 = .ok (.iconst 0, 1) := by decide +kernel
theorem dX3_load_50 : decode cX3_load 50 = .ok (.bastore, 1) := by decide +kernel
theorem dX3_load_51 : decode cX3_load 51 = .ok (.aload_n 0, 1) := by decide +kernel
theorem dX3_load_52 : decode cX3_load 52 = .ok (.getfield 25, 3) := by decide +kernel
theorem dX3_load_55 : decode cX3_load 55 = .ok (.iconst 1, 1) := by decide +kernel
theorem dX3_load_56 : decode cX3_load 56 = .ok (.iconst 0, 1) := by decide +kernel
theorem dX3_load_57 : decode cX3_load 57 = .ok (.bastore, 1) := by decide +kernel
theorem dX3_load_58 : decode cX3_load 58 = .ok (.aload_n 0, 1) := by decide +kernel
theorem dX3_load_59 : decode cX3_load 59 = .ok (.getfield 142, 3) := by decide +kernel
theorem dX3_load_62 : decode cX3_load 62 = .ok (.ireturn, 1) := by decide +kernel
theorem dX3_about_0 : decode cX3_about 0 = .ok (.aload_n 0, 1) := by decide +kernel
theorem dX3_about_1 : decode cX3_about 1 = .ok (.iload_n 1, 1) := by decide +kernel
theorem dX3_about_2 : decode cX3_about 2 = .ok (.i2l, 1) := by decide +kernel
theorem dX3_about_3 : decode cX3_about 3 = .ok (.lconst 0, 1) := by decide +kernel
theorem dX3_about_4 : decode cX3_about 4 = .ok (.ldc2_w 140, 3) := by decide +kernel
theorem dX3_about_7 : decode cX3_about 7 = .ok (.invokestatic 40, 3) := by decide +kernel
theorem dX3_about_10 : decode cX3_about 10 = .ok (.ifCond .eq 7, 3) := by decide +kernel
theorem dX3_about_13 : decode cX3_about 13 = .ok (.iconst 0, 1) := by decide +kernel
theorem dX3_about_14 : decode cX3_about 14 = .ok (.goto 4, 3) := by decide +kernel
theorem dX3_about_17 : decode cX3_about 17 = .ok (.iconst 1, 1) := by decide +kernel
theorem dX3_about_18 : decode cX3_about 18 = .ok (.invokevirtual 130, 3) := by decide +kernel
theorem dX3_about_21 : decode cX3_about 21 = .ok (.ifCond .eq 5, 3) := by decide +kernel
theorem dX3_about_24 : decode cX3_about 24 = .ok (.iconst 0, 1) := by decide +kernel
theorem dX3_about_25 : decode cX3_about 25 = .ok (.ireturn, 1) := by decide +kernel
theorem dX3_about_26 : decode cX3_about 26 = .ok (.iload_n 1, 1) := by decide +kernel
theorem dX3_about_27 : decode cX3_about 27 = .ok (.tableswitch 95 0 9 #[53, 53, 60, 95, 95, 95, 95, 69, 78, 87], 53) := by decide +kernel
theorem dX3_about_80 : decode cX3_about 80 = .ok (.aload_n 0, 1) := by decide +kernel
theorem dX3_about_81 : decode cX3_about 81 = .ok (.getfield 13, 3) := by decide +kernel
theorem dX3_about_84 : decode cX3_about 84 = .ok (.iload_n 1, 1) := by decide +kernel
theorem dX3_about_85 : decode cX3_about 85 = .ok (.iaload, 1) := by decide +kernel
theorem dX3_about_86 : decode cX3_about 86 = .ok (.ireturn, 1) := by decide +kernel
theorem dX3_about_87 : decode cX3_about 87 = .ok (.aload_n 0, 1) := by decide +kernel
theorem dX3_about_88 : decode cX3_about 88 = .ok (.getfield 13, 3) := by decide +kernel
theorem dX3_about_91 : decode cX3_about 91 = .ok (.iconst 0, 1) := by decide +kernel
theorem dX3_about_92 : decode cX3_about 92 = .ok (.invokestatic 118, 3) := by decide +kernel
theorem dX3_about_95 : decode cX3_about 95 = .ok (.ireturn, 1) := by decide +kernel
theorem dX3_about_96 : decode cX3_about 96 = .ok (.aload_n 0, 1) := by decide +kernel
theorem dX3_about_97 : decode cX3_about 97 = .ok (.getfield 13, 3) := by decide +kernel
theorem dX3_about_100 : decode cX3_about 100 = .ok (.iconst 5, 1) := by decide +kernel
theorem dX3_about_101 : decode cX3_about 101 = .ok (.invokestatic 118, 3) := by decide +kernel
theorem dX3_about_104 : decode cX3_about 104 = .ok (.ireturn, 1) := by decide +kernel
theorem dX3_about_105 : decode cX3_about 105 = .ok (.aload_n 0, 1) := by decide +kernel
theorem dX3_about_106 : decode cX3_about 106 = .ok (.getfield 13, 3) := by decide +kernel
theorem dX3_about_109 : decode cX3_about 109 = .ok (.iconst 4, 1) := by decide +kernel
theorem dX3_about_110 : decode cX3_about 110 = .ok (.invokestatic 118, 3) := by decide +kernel
theorem dX3_about_113 : decode cX3_about 113 = .ok (.ireturn, 1) := by decide +kernel
theorem dX3_about_114 : decode cX3_about 114 = .ok (.aload_n 0, 1) := by decide +kernel
theorem dX3_about_115 : decode cX3_about 115 = .ok (.getfield 13, 3) := by decide +kernel
theorem dX3_about_118 : decode cX3_about 118 = .ok (.bipush 6, 2) := by decide +kernel
theorem dX3_about_120 : decode cX3_about 120 = .ok (.iaload, 1) := by decide +kernel
theorem dX3_about_121 : decode cX3_about 121 = .ok (.ireturn, 1) := by decide +kernel
theorem dX3_about_122 : decode cX3_about 122 = .ok (.aload_n 0, 1) := by decide +kernel
theorem dX3_about_123 : decode cX3_about 123 = .ok (.getfield 13, 3) := by decide +kernel
theorem dX3_about_126 : decode cX3_about 126 = .ok (.iload_n 1, 1) := by decide +kernel
theorem dX3_about_127 : decode cX3_about 127 = .ok (.iconst 1, 1) := by decide +kernel
theorem dX3_about_128 : decode cX3_about 128 = .ok (.isub, 1) := by decide +kernel
theorem dX3_about_129 : decode cX3_about 129 = .ok (.iaload, 1) := by decide +kernel
theorem dX3_about_130 : decode cX3_about 130 = .ok (.ireturn, 1) := by decide +kernel
theorem dX3_laneOf_0 : decode cX3_laneOf 0 = .ok (.aload_n 0, 1) := by decide +kernel
theorem dX3_laneOf_1 : decode cX3_laneOf 1 = .ok (.aload_n 0, 1) := by decide +kernel
theorem dX3_laneOf_2 : decode cX3_laneOf 2 = .ok (.getfield 13, 3) := by decide +kernel
theorem dX3_laneOf_5 : decode cX3_laneOf 5 = .ok (.iload_n 1, 1) := by decide +kernel
theorem dX3_laneOf_6 : decode cX3_laneOf 6 = .ok (.invokestatic 44, 3) := by decide +kernel
theorem dX3_laneOf_9 : decode cX3_laneOf 9 = .ok (.ifCond .ne 7, 3) := by decide +kernel
theorem dX3_laneOf_12 : decode cX3_laneOf 12 = .ok (.iconst 1, 1) := by decide +kernel
theorem dX3_laneOf_13 : decode cX3_laneOf 13 = .ok (.goto 20, 3) := by decide +kernel
theorem dX3_laneOf_16 : decode cX3_laneOf 16 = .ok (.iload_n 2, 1) := by decide +kernel
theorem dX3_laneOf_17 : decode cX3_laneOf 17 = .ok (.i2l, 1) := by decide +kernel
theorem dX3_laneOf_18 : decode cX3_laneOf 18 = .ok (.lconst 0, 1) := by decide +kernel
theorem dX3_laneOf_19 : decode cX3_laneOf 19 = .ok (.ldc2_w 194, 3) := by decide +kernel
theorem dX3_laneOf_22 : decode cX3_laneOf 22 = .ok (.invokestatic 40, 3) := by decide +kernel
theorem dX3_laneOf_25 : decode cX3_laneOf 25 = .ok (.ifCond .eq 7, 3) := by decide +kernel
theorem dX3_laneOf_28 : decode cX3_laneOf 28 = .ok (.iconst 0, 1) := by decide +kernel
theorem dX3_laneOf_29 : decode cX3_laneOf 29 = .ok (.goto 4, 3) := by decide +kernel
theorem dX3_laneOf_32 : decode cX3_laneOf 32 = .ok (.iconst 2, 1) := by decide +kernel
theorem dX3_laneOf_33 : decode cX3_laneOf 33 = .ok (.invokevirtual 130, 3) := by decide +kernel
theorem dX3_laneOf_36 : decode cX3_laneOf 36 = .ok (.ifCond .eq 5, 3) := by decide +kernel
theorem dX3_laneOf_39 : decode cX3_laneOf 39 = .ok (.iconst 0, 1) := by decide +kernel
theorem dX3_laneOf_40 : decode cX3_laneOf 40 = .ok (.ireturn, 1) := by decide +kernel
theorem dX3_laneOf_41 : decode cX3_laneOf 41 = .ok (.iconst 0, 1) := by decide +kernel
theorem dX3_laneOf_42 : decode cX3_laneOf 42 = .ok (.istore_n 3, 1) := by decide +kernel
theorem dX3_laneOf_43 : decode cX3_laneOf 43 = .ok (.iconst 0, 1) := by decide +kernel
theorem dX3_laneOf_44 : decode cX3_laneOf 44 = .ok (.istore 4, 2) := by decide +kernel
theorem dX3_laneOf_46 : decode cX3_laneOf 46 = .ok (.iload 4, 2) := by decide +kernel
theorem dX3_laneOf_48 : decode cX3_laneOf 48 = .ok (.aload_n 0, 1) := by decide +kernel
theorem dX3_laneOf_49 : decode cX3_laneOf 49 = .ok (.getfield 13, 3) := by decide +kernel
theorem dX3_laneOf_52 : decode cX3_laneOf 52 = .ok (.iload_n 1, 1) := by decide +kernel
theorem dX3_laneOf_53 : decode cX3_laneOf 53 = .ok (.iconst 0, 1) := by decide +kernel
theorem dX3_laneOf_54 : decode cX3_laneOf 54 = .ok (.invokestatic 48, 3) := by decide +kernel
theorem dX3_laneOf_57 : decode cX3_laneOf 57 = .ok (.if_icmp .ge 47, 3) := by decide +kernel
theorem dX3_laneOf_60 : decode cX3_laneOf 60 = .ok (.iload_n 3, 1) := by decide +kernel
theorem dX3_laneOf_61 : decode cX3_laneOf 61 = .ok (.aload_n 0, 1) := by decide +kernel
theorem dX3_laneOf_62 : decode cX3_laneOf 62 = .ok (.getfield 13, 3) := by decide +kernel
theorem dX3_laneOf_65 : decode cX3_laneOf 65 = .ok (.iload_n 1, 1) := by decide +kernel
theorem dX3_laneOf_66 : decode cX3_laneOf 66 = .ok (.iload 4, 2) := by decide +kernel
theorem dX3_laneOf_68 : decode cX3_laneOf 68 = .ok (.iconst 4, 1) := by decide +kernel
theorem dX3_laneOf_69 : decode cX3_laneOf 69 = .ok (.invokestatic 56, 3) := by decide +kernel
theorem dX3_laneOf_72 : decode cX3_laneOf 72 = .ok (.ifCond .ne 23, 3) := by decide +kernel
theorem dX3_laneOf_75 : decode cX3_laneOf 75 = .ok (.aload_n 0, 1) := by decide +kernel
theorem dX3_laneOf_76 : decode cX3_laneOf 76 = .ok (.getfield 13, 3) := by decide +kernel
theorem dX3_laneOf_79 : decode cX3_laneOf 79 = .ok (.iload_n 1, 1) := by decide +kernel
theorem dX3_laneOf_80 : decode cX3_laneOf 80 = .ok (.iload 4, 2) := by decide +kernel
theorem dX3_laneOf_82 : decode cX3_laneOf 82 = .ok (.iconst 1, 1) := by decide +kernel
theorem dX3_laneOf_83 : decode cX3_laneOf 83 = .ok (.invokestatic 56, 3) := by decide +kernel
theorem dX3_laneOf_86 : decode cX3_laneOf 86 = .ok (.bipush 20, 2) := by decide +kernel
theorem dX3_laneOf_88 : decode cX3_laneOf 88 = .ok (.if_icmp .ge 7, 3) := by decide +kernel
theorem dX3_laneOf_91 : decode cX3_laneOf 91 = .ok (.iconst 1, 1) := by decide +kernel
theorem dX3_laneOf_92 : decode cX3_laneOf 92 = .ok (.goto 4, 3) := by decide +kernel
theorem dX3_laneOf_95 : decode cX3_laneOf 95 = .ok (.iconst 0, 1) := by decide +kernel
theorem dX3_laneOf_96 : decode cX3_laneOf 96 = .ok (.iadd, 1) := by decide +kernel
theorem dX3_laneOf_97 : decode cX3_laneOf 97 = .ok (.istore_n 3, 1) := by decide +kernel
theorem dX3_laneOf_98 : decode cX3_laneOf 98 = .ok (.iinc 4 1, 3) := by decide +kernel
theorem dX3_laneOf_101 : decode cX3_laneOf 101 = .ok (.goto (-55), 3) := by decide +kernel
theorem dX3_laneOf_104 : decode cX3_laneOf 104 = .ok (.iload_n 2, 1) := by decide +kernel
theorem dX3_laneOf_105 : decode cX3_laneOf 105 = .ok (.bipush 7, 2) := by decide +kernel
theorem dX3_laneOf_107 : decode cX3_laneOf 107 = .ok (.if_icmp .ge 15, 3) := by decide +kernel
theorem dX3_laneOf_110 : decode cX3_laneOf 110 = .ok (.aload_n 0, 1) := by decide +kernel
theorem dX3_laneOf_111 : decode cX3_laneOf 111 = .ok (.getfield 13, 3) := by decide +kernel
theorem dX3_laneOf_114 : decode cX3_laneOf 114 = .ok (.iload_n 1, 1) := by decide +kernel
theorem dX3_laneOf_115 : decode cX3_laneOf 115 = .ok (.iload_n 2, 1) := by decide +kernel
theorem dX3_laneOf_116 : decode cX3_laneOf 116 = .ok (.invokestatic 48, 3) := by decide +kernel
theorem dX3_laneOf_119 : decode cX3_laneOf 119 = .ok (.goto 4, 3) := by decide +kernel
theorem dX3_laneOf_122 : decode cX3_laneOf 122 = .ok (.iload_n 3, 1) := by decide +kernel
theorem dX3_laneOf_123 : decode cX3_laneOf 123 = .ok (.ireturn, 1) := by decide +kernel
theorem dX3_vehicle_0 : decode cX3_vehicle 0 = .ok (.aload_n 0, 1) := by decide +kernel
theorem dX3_vehicle_1 : decode cX3_vehicle 1 = .ok (.aload_n 0, 1) := by decide +kernel
theorem dX3_vehicle_2 : decode cX3_vehicle 2 = .ok (.getfield 13, 3) := by decide +kernel
theorem dX3_vehicle_5 : decode cX3_vehicle 5 = .ok (.iload_n 1, 1) := by decide +kernel
theorem dX3_vehicle_6 : decode cX3_vehicle 6 = .ok (.iload_n 2, 1) := by decide +kernel
theorem dX3_vehicle_7 : decode cX3_vehicle 7 = .ok (.invokestatic 196, 3) := by decide +kernel
theorem dX3_vehicle_10 : decode cX3_vehicle 10 = .ok (.ifCond .ne 7, 3) := by decide +kernel
theorem dX3_vehicle_13 : decode cX3_vehicle 13 = .ok (.iconst 1, 1) := by decide +kernel
theorem dX3_vehicle_14 : decode cX3_vehicle 14 = .ok (.goto 20, 3) := by decide +kernel
theorem dX3_vehicle_17 : decode cX3_vehicle 17 = .ok (.iload_n 3, 1) := by decide +kernel
theorem dX3_vehicle_18 : decode cX3_vehicle 18 = .ok (.i2l, 1) := by decide +kernel
theorem dX3_vehicle_19 : decode cX3_vehicle 19 = .ok (.lconst 0, 1) := by decide +kernel
theorem dX3_vehicle_20 : decode cX3_vehicle 20 = .ok (.ldc2_w 199, 3) := by decide +kernel
theorem dX3_vehicle_23 : decode cX3_vehicle 23 = .ok (.invokestatic 40, 3) := by decide +kernel
theorem dX3_vehicle_26 : decode cX3_vehicle 26 = .ok (.ifCond .eq 7, 3) := by decide +kernel
theorem dX3_vehicle_29 : decode cX3_vehicle 29 = .ok (.iconst 0, 1) := by decide +kernel
theorem dX3_vehicle_30 : decode cX3_vehicle 30 = .ok (.goto 4, 3) := by decide +kernel
theorem dX3_vehicle_33 : decode cX3_vehicle 33 = .ok (.iconst 2, 1) := by decide +kernel
theorem dX3_vehicle_34 : decode cX3_vehicle 34 = .ok (.invokevirtual 130, 3) := by decide +kernel
theorem dX3_vehicle_37 : decode cX3_vehicle 37 = .ok (.ifCond .eq 5, 3) := by decide +kernel
theorem dX3_vehicle_40 : decode cX3_vehicle 40 = .ok (.iconst 0, 1) := by decide +kernel
theorem dX3_vehicle_41 : decode cX3_vehicle 41 = .ok (.ireturn, 1) := by decide +kernel
theorem dX3_vehicle_42 : decode cX3_vehicle 42 = .ok (.aload_n 0, 1) := by decide +kernel
theorem dX3_vehicle_43 : decode cX3_vehicle 43 = .ok (.getfield 13, 3) := by decide +kernel
theorem dX3_vehicle_46 : decode cX3_vehicle 46 = .ok (.iload_n 1, 1) := by decide +kernel
theorem dX3_vehicle_47 : decode cX3_vehicle 47 = .ok (.iload_n 2, 1) := by decide +kernel
theorem dX3_vehicle_48 : decode cX3_vehicle 48 = .ok (.iload_n 3, 1) := by decide +kernel
theorem dX3_vehicle_49 : decode cX3_vehicle 49 = .ok (.invokestatic 56, 3) := by decide +kernel
theorem dX3_vehicle_52 : decode cX3_vehicle 52 = .ok (.ireturn, 1) := by decide +kernel
theorem dX3_whyOf_0 : decode cX3_whyOf 0 = .ok (.aload_n 0, 1) := by decide +kernel
theorem dX3_whyOf_1 : decode cX3_whyOf 1 = .ok (.iload_n 1, 1) := by decide +kernel
theorem dX3_whyOf_2 : decode cX3_whyOf 2 = .ok (.iconst 5, 1) := by decide +kernel
theorem dX3_whyOf_3 : decode cX3_whyOf 3 = .ok (.invokestatic 48, 3) := by decide +kernel
theorem dX3_whyOf_6 : decode cX3_whyOf 6 = .ok (.iconst 1, 1) := by decide +kernel
theorem dX3_whyOf_7 : decode cX3_whyOf 7 = .ok (.if_icmp .ne 7, 3) := by decide +kernel
theorem dX3_whyOf_10 : decode cX3_whyOf 10 = .ok (.iconst 4, 1) := by decide +kernel
theorem dX3_whyOf_11 : decode cX3_whyOf 11 = .ok (.goto 8, 3) := by decide +kernel
theorem dX3_whyOf_14 : decode cX3_whyOf 14 = .ok (.aload_n 0, 1) := by decide +kernel
theorem dX3_whyOf_15 : decode cX3_whyOf 15 = .ok (.iload_n 1, 1) := by decide +kernel
theorem dX3_whyOf_16 : decode cX3_whyOf 16 = .ok (.invokestatic 83, 3) := by decide +kernel
theorem dX3_whyOf_19 : decode cX3_whyOf 19 = .ok (.ireturn, 1) := by decide +kernel
theorem dX3_why_0 : decode cX3_why 0 = .ok (.aload_n 0, 1) := by decide +kernel
theorem dX3_why_1 : decode cX3_why 1 = .ok (.aload_n 0, 1) := by decide +kernel
theorem dX3_why_2 : decode cX3_why 2 = .ok (.getfield 13, 3) := by decide +kernel
theorem dX3_why_5 : decode cX3_why 5 = .ok (.iload_n 1, 1) := by decide +kernel
theorem dX3_why_6 : decode cX3_why 6 = .ok (.invokestatic 44, 3) := by decide +kernel
theorem dX3_why_9 : decode cX3_why 9 = .ok (.ifCond .eq 7, 3) := by decide +kernel
theorem dX3_why_12 : decode cX3_why 12 = .ok (.iconst 0, 1) := by decide +kernel
theorem dX3_why_13 : decode cX3_why 13 = .ok (.goto 4, 3) := by decide +kernel
theorem dX3_why_16 : decode cX3_why 16 = .ok (.iconst 1, 1) := by decide +kernel
theorem dX3_why_17 : decode cX3_why 17 = .ok (.invokevirtual 130, 3) := by decide +kernel
theorem dX3_why_20 : decode cX3_why 20 = .ok (.ifCond .eq 5, 3) := by decide +kernel
theorem dX3_why_23 : decode cX3_why 23 = .ok (.iconst 0, 1) := by decide +kernel
theorem dX3_why_24 : decode cX3_why 24 = .ok (.ireturn, 1) := by decide +kernel
theorem dX3_why_25 : decode cX3_why 25 = .ok (.aload_n 0, 1) := by decide +kernel
theorem dX3_why_26 : decode cX3_why 26 = .ok (.getfield 13, 3) := by decide +kernel
theorem dX3_why_29 : decode cX3_why 29 = .ok (.iload_n 1, 1) := by decide +kernel
theorem dX3_why_30 : decode cX3_why 30 = .ok (.invokestatic 201, 3) := by decide +kernel
theorem dX3_why_33 : decode cX3_why 33 = .ok (.ireturn, 1) := by decide +kernel
theorem dX3_setting_0 : decode cX3_setting 0 = .ok (.aload_n 0, 1) := by decide +kernel
theorem dX3_setting_1 : decode cX3_setting 1 = .ok (.iload_n 1, 1) := by decide +kernel
theorem dX3_setting_2 : decode cX3_setting 2 = .ok (.i2l, 1) := by decide +kernel
theorem dX3_setting_3 : decode cX3_setting 3 = .ok (.lconst 0, 1) := by decide +kernel
theorem dX3_setting_4 : decode cX3_setting 4 = .ok (.ldc2_w 110, 3) := by decide +kernel
theorem dX3_setting_7 : decode cX3_setting 7 = .ok (.invokestatic 40, 3) := by decide +kernel
theorem dX3_setting_10 : decode cX3_setting 10 = .ok (.ifCond .eq 7, 3) := by decide +kernel
theorem dX3_setting_13 : decode cX3_setting 13 = .ok (.iconst 0, 1) := by decide +kernel
theorem dX3_setting_14 : decode cX3_setting 14 = .ok (.goto 4, 3) := by decide +kernel
theorem dX3_setting_17 : decode cX3_setting 17 = .ok (.iconst 1, 1) := by decide +kernel
theorem dX3_setting_18 : decode cX3_setting 18 = .ok (.invokevirtual 130, 3) := by decide +kernel
theorem dX3_setting_21 : decode cX3_setting 21 = .ok (.ifCond .eq 5, 3) := by decide +kernel
theorem dX3_setting_24 : decode cX3_setting 24 = .ok (.iconst 0, 1) := by decide +kernel
theorem dX3_setting_25 : decode cX3_setting 25 = .ok (.ireturn, 1) := by decide +kernel
theorem dX3_setting_26 : decode cX3_setting 26 = .ok (.aload_n 0, 1) := by decide +kernel
theorem dX3_setting_27 : decode cX3_setting 27 = .ok (.getfield 13, 3) := by decide +kernel
theorem dX3_setting_30 : decode cX3_setting 30 = .ok (.bipush 7, 2) := by decide +kernel
theorem dX3_setting_32 : decode cX3_setting 32 = .ok (.iload_n 1, 1) := by decide +kernel
theorem dX3_setting_33 : decode cX3_setting 33 = .ok (.iadd, 1) := by decide +kernel
theorem dX3_setting_34 : decode cX3_setting 34 = .ok (.iaload, 1) := by decide +kernel
theorem dX3_setting_35 : decode cX3_setting 35 = .ok (.ireturn, 1) := by decide +kernel
theorem dX3_remember_0 : decode cX3_remember 0 = .ok (.aload_n 0, 1) := by decide +kernel
theorem dX3_remember_1 : decode cX3_remember 1 = .ok (.getfield 191, 3) := by decide +kernel
theorem dX3_remember_4 : decode cX3_remember 4 = .ok (.bipush 14, 2) := by decide +kernel
theorem dX3_remember_6 : decode cX3_remember 6 = .ok (.if_icmp .ne 43, 3) := by decide +kernel
theorem dX3_remember_9 : decode cX3_remember 9 = .ok (.iconst 0, 1) := by decide +kernel
theorem dX3_remember_10 : decode cX3_remember 10 = .ok (.istore_n 1, 1) := by decide +kernel
theorem dX3_remember_11 : decode cX3_remember 11 = .ok (.iload_n 1, 1) := by decide +kernel
theorem dX3_remember_12 : decode cX3_remember 12 = .ok (.sipush 1573, 3) := by decide +kernel
theorem dX3_remember_15 : decode cX3_remember 15 = .ok (.if_icmp .ge 24, 3) := by decide +kernel
theorem dX3_remember_18 : decode cX3_remember 18 = .ok (.aload_n 0, 1) := by decide +kernel
theorem dX3_remember_19 : decode cX3_remember 19 = .ok (.getfield 19, 3) := by decide +kernel
theorem dX3_remember_22 : decode cX3_remember 22 = .ok (.iload_n 1, 1) := by decide +kernel
theorem dX3_remember_23 : decode cX3_remember 23 = .ok (.aload_n 0, 1) := by decide +kernel
theorem dX3_remember_24 : decode cX3_remember 24 = .ok (.getfield 19, 3) := by decide +kernel
theorem dX3_remember_27 : decode cX3_remember 27 = .ok (.iload_n 1, 1) := by decide +kernel
theorem dX3_remember_28 : decode cX3_remember 28 = .ok (.bipush 121, 2) := by decide +kernel
theorem dX3_remember_30 : decode cX3_remember 30 = .ok (.iadd, 1) := by decide +kernel
theorem dX3_remember_31 : decode cX3_remember 31 = .ok (.iaload, 1) := by decide +kernel
theorem dX3_remember_32 : decode cX3_remember 32 = .ok (.iastore, 1) := by decide +kernel
theorem dX3_remember_33 : decode cX3_remember 33 = .ok (.iinc 1 1, 3) := by decide +kernel
theorem dX3_remember_36 : decode cX3_remember 36 = .ok (.goto (-25), 3) := by decide +kernel
theorem dX3_remember_39 : decode cX3_remember 39 = .ok (.aload_n 0, 1) := by decide +kernel
theorem dX3_remember_40 : decode cX3_remember 40 = .ok (.dup, 1) := by decide +kernel
theorem dX3_remember_41 : decode cX3_remember 41 = .ok (.getfield 191, 3) := by decide +kernel
theorem dX3_remember_44 : decode cX3_remember 44 = .ok (.iconst 1, 1) := by decide +kernel
theorem dX3_remember_45 : decode cX3_remember 45 = .ok (.isub, 1) := by decide +kernel
theorem dX3_remember_46 : decode cX3_remember 46 = .ok (.putfield 191, 3) := by decide +kernel
theorem dX3_remember_49 : decode cX3_remember 49 = .ok (.aload_n 0, 1) := by decide +kernel
theorem dX3_remember_50 : decode cX3_remember 50 = .ok (.getfield 13, 3) := by decide +kernel
theorem dX3_remember_53 : decode cX3_remember 53 = .ok (.iconst 0, 1) := by decide +kernel
theorem dX3_remember_54 : decode cX3_remember 54 = .ok (.aload_n 0, 1) := by decide +kernel
theorem dX3_remember_55 : decode cX3_remember 55 = .ok (.getfield 19, 3) := by decide +kernel
theorem dX3_remember_58 : decode cX3_remember 58 = .ok (.bipush 121, 2) := by decide +kernel
theorem dX3_remember_60 : decode cX3_remember 60 = .ok (.aload_n 0, 1) := by decide +kernel
theorem dX3_remember_61 : decode cX3_remember 61 = .ok (.getfield 191, 3) := by decide +kernel
theorem dX3_remember_64 : decode cX3_remember 64 = .ok (.imul, 1) := by decide +kernel
theorem dX3_remember_65 : decode cX3_remember 65 = .ok (.invokestatic 187, 3) := by decide +kernel
theorem dX3_remember_68 : decode cX3_remember 68 = .ok (.aload_n 0, 1) := by decide +kernel
theorem dX3_remember_69 : decode cX3_remember 69 = .ok (.dup, 1) := by decide +kernel
theorem dX3_remember_70 : decode cX3_remember 70 = .ok (.getfield 191, 3) := by decide +kernel
theorem dX3_remember_73 : decode cX3_remember 73 = .ok (.iconst 1, 1) := by decide +kernel
theorem dX3_remember_74 : decode cX3_remember 74 = .ok (.iadd, 1) := by decide +kernel
theorem dX3_remember_75 : decode cX3_remember 75 = .ok (.putfield 191, 3) := by decide +kernel
theorem dX3_remember_78 : decode cX3_remember 78 = .ok (.return_, 1) := by decide +kernel
theorem dX3_lane_0 : decode cX3_lane 0 = .ok (.aload_n 0, 1) := by decide +kernel
theorem dX3_lane_1 : decode cX3_lane 1 = .ok (.aload_n 0, 1) := by decide +kernel
theorem dX3_lane_2 : decode cX3_lane 2 = .ok (.getfield 13, 3) := by decide +kernel
theorem dX3_lane_5 : decode cX3_lane 5 = .ok (.iconst 0, 1) := by decide +kernel
theorem dX3_lane_6 : decode cX3_lane 6 = .ok (.iaload, 1) := by decide +kernel
theorem dX3_lane_7 : decode cX3_lane 7 = .ok (.iconst 3, 1) := by decide +kernel
theorem dX3_lane_8 : decode cX3_lane 8 = .ok (.if_icmp .ge 7, 3) := by decide +kernel
theorem dX3_lane_11 : decode cX3_lane 11 = .ok (.iconst 0, 1) := by decide +kernel
theorem dX3_lane_12 : decode cX3_lane 12 = .ok (.goto 4, 3) := by decide +kernel
theorem dX3_lane_15 : decode cX3_lane 15 = .ok (.iconst 1, 1) := by decide +kernel
theorem dX3_lane_16 : decode cX3_lane 16 = .ok (.invokevirtual 130, 3) := by decide +kernel
theorem dX3_lane_19 : decode cX3_lane 19 = .ok (.ifCond .eq 5, 3) := by decide +kernel
theorem dX3_lane_22 : decode cX3_lane 22 = .ok (.iconst 0, 1) := by decide +kernel
theorem dX3_lane_23 : decode cX3_lane 23 = .ok (.ireturn, 1) := by decide +kernel
theorem dX3_lane_24 : decode cX3_lane 24 = .ok (.aload_n 0, 1) := by decide +kernel
theorem dX3_lane_25 : decode cX3_lane 25 = .ok (.invokevirtual 204, 3) := by decide +kernel
theorem dX3_lane_28 : decode cX3_lane 28 = .ok (.aload_n 0, 1) := by decide +kernel
theorem dX3_lane_29 : decode cX3_lane 29 = .ok (.getfield 13, 3) := by decide +kernel
theorem dX3_lane_32 : decode cX3_lane 32 = .ok (.invokestatic 145, 3) := by decide +kernel
theorem dX3_lane_35 : decode cX3_lane 35 = .ok (.ireturn, 1) := by decide +kernel
theorem dX3_arrive_0 : decode cX3_arrive 0 = .ok (.aload_n 0, 1) := by decide +kernel
theorem dX3_arrive_1 : decode cX3_arrive 1 = .ok (.aload_n 0, 1) := by decide +kernel
theorem dX3_arrive_2 : decode cX3_arrive 2 = .ok (.getfield 13, 3) := by decide +kernel
theorem dX3_arrive_5 : decode cX3_arrive 5 = .ok (.iload_n 1, 1) := by decide +kernel
theorem dX3_arrive_6 : decode cX3_arrive 6 = .ok (.invokestatic 44, 3) := by decide +kernel
theorem dX3_arrive_9 : decode cX3_arrive 9 = .ok (.ifCond .ne 7, 3) := by decide +kernel
theorem dX3_arrive_12 : decode cX3_arrive 12 = .ok (.iconst 1, 1) := by decide +kernel
theorem dX3_arrive_13 : decode cX3_arrive 13 = .ok (.goto 31, 3) := by decide +kernel
theorem dX3_arrive_16 : decode cX3_arrive 16 = .ok (.iload_n 2, 1) := by decide +kernel
theorem dX3_arrive_17 : decode cX3_arrive 17 = .ok (.invokestatic 114, 3) := by decide +kernel
theorem dX3_arrive_20 : decode cX3_arrive 20 = .ok (.ifCond .ne 7, 3) := by decide +kernel
theorem dX3_arrive_23 : decode cX3_arrive 23 = .ok (.iconst 2, 1) := by decide +kernel
theorem dX3_arrive_24 : decode cX3_arrive 24 = .ok (.goto 20, 3) := by decide +kernel
theorem dX3_arrive_27 : decode cX3_arrive 27 = .ok (.aload_n 0, 1) := by decide +kernel
theorem dX3_arrive_28 : decode cX3_arrive 28 = .ok (.getfield 13, 3) := by decide +kernel
theorem dX3_arrive_31 : decode cX3_arrive 31 = .ok (.iload_n 1, 1) := by decide +kernel
theorem dX3_arrive_32 : decode cX3_arrive 32 = .ok (.iload_n 2, 1) := by decide +kernel
theorem dX3_arrive_33 : decode cX3_arrive 33 = .ok (.invokestatic 160, 3) := by decide +kernel
theorem dX3_arrive_36 : decode cX3_arrive 36 = .ok (.ifCond .eq 7, 3) := by decide +kernel
theorem dX3_arrive_39 : decode cX3_arrive 39 = .ok (.iconst 0, 1) := by decide +kernel
theorem dX3_arrive_40 : decode cX3_arrive 40 = .ok (.goto 4, 3) := by decide +kernel
theorem dX3_arrive_43 : decode cX3_arrive 43 = .ok (.iconst 3, 1) := by decide +kernel
theorem dX3_arrive_44 : decode cX3_arrive 44 = .ok (.invokevirtual 130, 3) := by decide +kernel
theorem dX3_arrive_47 : decode cX3_arrive 47 = .ok (.ifCond .eq 5, 3) := by decide +kernel
theorem dX3_arrive_50 : decode cX3_arrive 50 = .ok (.iconst 0, 1) := by decide +kernel
theorem dX3_arrive_51 : decode cX3_arrive 51 = .ok (.ireturn, 1) := by decide +kernel
theorem dX3_arrive_52 : decode cX3_arrive 52 = .ok (.aload_n 0, 1) := by decide +kernel
theorem dX3_arrive_53 : decode cX3_arrive 53 = .ok (.invokevirtual 204, 3) := by decide +kernel
theorem dX3_arrive_56 : decode cX3_arrive 56 = .ok (.aload_n 0, 1) := by decide +kernel
theorem dX3_arrive_57 : decode cX3_arrive 57 = .ok (.getfield 13, 3) := by decide +kernel
theorem dX3_arrive_60 : decode cX3_arrive 60 = .ok (.iload_n 1, 1) := by decide +kernel
theorem dX3_arrive_61 : decode cX3_arrive 61 = .ok (.iload_n 2, 1) := by decide +kernel
theorem dX3_arrive_62 : decode cX3_arrive 62 = .ok (.iload_n 3, 1) := by decide +kernel
theorem dX3_arrive_63 : decode cX3_arrive 63 = .ok (.iload 4, 2) := by decide +kernel
theorem dX3_arrive_65 : decode cX3_arrive 65 = .ok (.invokestatic 163, 3) := by decide +kernel
theorem dX3_arrive_68 : decode cX3_arrive 68 = .ok (.ireturn, 1) := by decide +kernel
theorem dX3_loop_0 : decode cX3_loop 0 = .ok (.aload_n 0, 1) := by decide +kernel
theorem dX3_loop_1 : decode cX3_loop 1 = .ok (.aload_n 0, 1) := by decide +kernel
theorem dX3_loop_2 : decode cX3_loop 2 = .ok (.getfield 13, 3) := by decide +kernel
theorem dX3_loop_5 : decode cX3_loop 5 = .ok (.iload_n 1, 1) := by decide +kernel
theorem dX3_loop_6 : decode cX3_loop 6 = .ok (.invokestatic 44, 3) := by decide +kernel
theorem dX3_loop_9 : decode cX3_loop 9 = .ok (.ifCond .eq 7, 3) := by decide +kernel
theorem dX3_loop_12 : decode cX3_loop 12 = .ok (.iconst 0, 1) := by decide +kernel
theorem dX3_loop_13 : decode cX3_loop 13 = .ok (.goto 4, 3) := by decide +kernel
theorem dX3_loop_16 : decode cX3_loop 16 = .ok (.iconst 1, 1) := by decide +kernel
theorem dX3_loop_17 : decode cX3_loop 17 = .ok (.invokevirtual 130, 3) := by decide +kernel
theorem dX3_loop_20 : decode cX3_loop 20 = .ok (.ifCond .eq 5, 3) := by decide +kernel
theorem dX3_loop_23 : decode cX3_loop 23 = .ok (.iconst 0, 1) := by decide +kernel
theorem dX3_loop_24 : decode cX3_loop 24 = .ok (.ireturn, 1) := by decide +kernel
theorem dX3_loop_25 : decode cX3_loop 25 = .ok (.aload_n 0, 1) := by decide +kernel
theorem dX3_loop_26 : decode cX3_loop 26 = .ok (.invokevirtual 204, 3) := by decide +kernel
theorem dX3_loop_29 : decode cX3_loop 29 = .ok (.aload_n 0, 1) := by decide +kernel
theorem dX3_loop_30 : decode cX3_loop 30 = .ok (.getfield 13, 3) := by decide +kernel
theorem dX3_loop_33 : decode cX3_loop 33 = .ok (.iload_n 1, 1) := by decide +kernel
theorem dX3_loop_34 : decode cX3_loop 34 = .ok (.iload_n 2, 1) := by decide +kernel
theorem dX3_loop_35 : decode cX3_loop 35 = .ok (.invokestatic 167, 3) := by decide +kernel
theorem dX3_loop_38 : decode cX3_loop 38 = .ok (.ireturn, 1) := by decide +kernel
theorem dX3_mend_0 : decode cX3_mend 0 = .ok (.aload_n 0, 1) := by decide +kernel
theorem dX3_mend_1 : decode cX3_mend 1 = .ok (.aload_n 0, 1) := by decide +kernel
theorem dX3_mend_2 : decode cX3_mend 2 = .ok (.getfield 13, 3) := by decide +kernel
theorem dX3_mend_5 : decode cX3_mend 5 = .ok (.iload_n 1, 1) := by decide +kernel
theorem dX3_mend_6 : decode cX3_mend 6 = .ok (.invokestatic 44, 3) := by decide +kernel
theorem dX3_mend_9 : decode cX3_mend 9 = .ok (.ifCond .ne 7, 3) := by decide +kernel
theorem dX3_mend_12 : decode cX3_mend 12 = .ok (.iconst 1, 1) := by decide +kernel
theorem dX3_mend_13 : decode cX3_mend 13 = .ok (.goto 19, 3) := by decide +kernel
theorem dX3_mend_16 : decode cX3_mend 16 = .ok (.aload_n 0, 1) := by decide +kernel
theorem dX3_mend_17 : decode cX3_mend 17 = .ok (.getfield 13, 3) := by decide +kernel
theorem dX3_mend_20 : decode cX3_mend 20 = .ok (.iload_n 1, 1) := by decide +kernel
theorem dX3_mend_21 : decode cX3_mend 21 = .ok (.invokestatic 171, 3) := by decide +kernel
theorem dX3_mend_24 : decode cX3_mend 24 = .ok (.ifCond .eq 7, 3) := by decide +kernel
theorem dX3_mend_27 : decode cX3_mend 27 = .ok (.iconst 0, 1) := by decide +kernel
theorem dX3_mend_28 : decode cX3_mend 28 = .ok (.goto 4, 3) := by decide +kernel
theorem dX3_mend_31 : decode cX3_mend 31 = .ok (.iconst 2, 1) := by decide +kernel
theorem dX3_mend_32 : decode cX3_mend 32 = .ok (.invokevirtual 130, 3) := by decide +kernel
theorem dX3_mend_35 : decode cX3_mend 35 = .ok (.ifCond .eq 5, 3) := by decide +kernel
theorem dX3_mend_38 : decode cX3_mend 38 = .ok (.iconst 0, 1) := by decide +kernel
theorem dX3_mend_39 : decode cX3_mend 39 = .ok (.ireturn, 1) := by decide +kernel
theorem dX3_mend_40 : decode cX3_mend 40 = .ok (.aload_n 0, 1) := by decide +kernel
theorem dX3_mend_41 : decode cX3_mend 41 = .ok (.invokevirtual 204, 3) := by decide +kernel
theorem dX3_mend_44 : decode cX3_mend 44 = .ok (.aload_n 0, 1) := by decide +kernel
theorem dX3_mend_45 : decode cX3_mend 45 = .ok (.getfield 13, 3) := by decide +kernel
theorem dX3_mend_48 : decode cX3_mend 48 = .ok (.iload_n 1, 1) := by decide +kernel
theorem dX3_mend_49 : decode cX3_mend 49 = .ok (.invokestatic 174, 3) := by decide +kernel
theorem dX3_mend_52 : decode cX3_mend 52 = .ok (.ireturn, 1) := by decide +kernel
theorem dX3_run_0 : decode cX3_run 0 = .ok (.aload_n 0, 1) := by decide +kernel
theorem dX3_run_1 : decode cX3_run 1 = .ok (.iload_n 1, 1) := by decide +kernel
theorem dX3_run_2 : decode cX3_run 2 = .ok (.i2l, 1) := by decide +kernel
theorem dX3_run_3 : decode cX3_run 3 = .ok (.lconst 1, 1) := by decide +kernel
theorem dX3_run_4 : decode cX3_run 4 = .ok (.ldc2_w 123, 3) := by decide +kernel
theorem dX3_run_7 : decode cX3_run 7 = .ok (.invokestatic 40, 3) := by decide +kernel
theorem dX3_run_10 : decode cX3_run 10 = .ok (.ifCond .eq 7, 3) := by decide +kernel
theorem dX3_run_13 : decode cX3_run 13 = .ok (.iconst 0, 1) := by decide +kernel
theorem dX3_run_14 : decode cX3_run 14 = .ok (.goto 4, 3) := by decide +kernel
theorem dX3_run_17 : decode cX3_run 17 = .ok (.iconst 1, 1) := by decide +kernel
theorem dX3_run_18 : decode cX3_run 18 = .ok (.invokevirtual 130, 3) := by decide +kernel
theorem dX3_run_21 : decode cX3_run 21 = .ok (.ifCond .eq 5, 3) := by decide +kernel
theorem dX3_run_24 : decode cX3_run 24 = .ok (.iconst 0, 1) := by decide +kernel
theorem dX3_run_25 : decode cX3_run 25 = .ok (.ireturn, 1) := by decide +kernel
theorem dX3_run_26 : decode cX3_run 26 = .ok (.aload_n 0, 1) := by decide +kernel
theorem dX3_run_27 : decode cX3_run 27 = .ok (.invokevirtual 204, 3) := by decide +kernel
theorem dX3_run_30 : decode cX3_run 30 = .ok (.aload_n 0, 1) := by decide +kernel
theorem dX3_run_31 : decode cX3_run 31 = .ok (.aload_n 0, 1) := by decide +kernel
theorem dX3_run_32 : decode cX3_run 32 = .ok (.getfield 13, 3) := by decide +kernel
theorem dX3_run_35 : decode cX3_run 35 = .ok (.iload_n 1, 1) := by decide +kernel
theorem dX3_run_36 : decode cX3_run 36 = .ok (.invokevirtual 177, 3) := by decide +kernel
theorem dX3_run_39 : decode cX3_run 39 = .ok (.ireturn, 1) := by decide +kernel
theorem dX3_set_0 : decode cX3_set 0 = .ok (.aload_n 0, 1) := by decide +kernel
theorem dX3_set_1 : decode cX3_set 1 = .ok (.iload_n 1, 1) := by decide +kernel
theorem dX3_set_2 : decode cX3_set 2 = .ok (.iload_n 2, 1) := by decide +kernel
theorem dX3_set_3 : decode cX3_set 3 = .ok (.invokestatic 207, 3) := by decide +kernel
theorem dX3_set_6 : decode cX3_set 6 = .ok (.ifCond .eq 7, 3) := by decide +kernel
theorem dX3_set_9 : decode cX3_set 9 = .ok (.iconst 0, 1) := by decide +kernel
theorem dX3_set_10 : decode cX3_set 10 = .ok (.goto 4, 3) := by decide +kernel
theorem dX3_set_13 : decode cX3_set 13 = .ok (.iconst 1, 1) := by decide +kernel
theorem dX3_set_14 : decode cX3_set 14 = .ok (.invokevirtual 130, 3) := by decide +kernel
theorem dX3_set_17 : decode cX3_set 17 = .ok (.ifCond .eq 5, 3) := by decide +kernel
theorem dX3_set_20 : decode cX3_set 20 = .ok (.iconst 0, 1) := by decide +kernel
theorem dX3_set_21 : decode cX3_set 21 = .ok (.ireturn, 1) := by decide +kernel
theorem dX3_set_22 : decode cX3_set 22 = .ok (.aload_n 0, 1) := by decide +kernel
theorem dX3_set_23 : decode cX3_set 23 = .ok (.invokevirtual 204, 3) := by decide +kernel
theorem dX3_set_26 : decode cX3_set 26 = .ok (.aload_n 0, 1) := by decide +kernel
theorem dX3_set_27 : decode cX3_set 27 = .ok (.getfield 13, 3) := by decide +kernel
theorem dX3_set_30 : decode cX3_set 30 = .ok (.bipush 7, 2) := by decide +kernel
theorem dX3_set_32 : decode cX3_set 32 = .ok (.iload_n 1, 1) := by decide +kernel
theorem dX3_set_33 : decode cX3_set 33 = .ok (.iadd, 1) := by decide +kernel
theorem dX3_set_34 : decode cX3_set 34 = .ok (.iaload, 1) := by decide +kernel
theorem dX3_set_35 : decode cX3_set 35 = .ok (.istore_n 3, 1) := by decide +kernel
theorem dX3_set_36 : decode cX3_set 36 = .ok (.aload_n 0, 1) := by decide +kernel
theorem dX3_set_37 : decode cX3_set 37 = .ok (.getfield 13, 3) := by decide +kernel
theorem dX3_set_40 : decode cX3_set 40 = .ok (.bipush 7, 2) := by decide +kernel
theorem dX3_set_42 : decode cX3_set 42 = .ok (.iload_n 1, 1) := by decide +kernel
theorem dX3_set_43 : decode cX3_set 43 = .ok (.iadd, 1) := by decide +kernel
theorem dX3_set_44 : decode cX3_set 44 = .ok (.iload_n 2, 1) := by decide +kernel
theorem dX3_set_45 : decode cX3_set 45 = .ok (.iastore, 1) := by decide +kernel
theorem dX3_set_46 : decode cX3_set 46 = .ok (.iload_n 3, 1) := by decide +kernel
theorem dX3_set_47 : decode cX3_set 47 = .ok (.ireturn, 1) := by decide +kernel
theorem dX3_undo_0 : decode cX3_undo 0 = .ok (.aload_n 0, 1) := by decide +kernel
theorem dX3_undo_1 : decode cX3_undo 1 = .ok (.aload_n 0, 1) := by decide +kernel
theorem dX3_undo_2 : decode cX3_undo 2 = .ok (.getfield 191, 3) := by decide +kernel
theorem dX3_undo_5 : decode cX3_undo 5 = .ok (.ifCond .ne 7, 3) := by decide +kernel
theorem dX3_undo_8 : decode cX3_undo 8 = .ok (.iconst 1, 1) := by decide +kernel
theorem dX3_undo_9 : decode cX3_undo 9 = .ok (.goto 4, 3) := by decide +kernel
theorem dX3_undo_12 : decode cX3_undo 12 = .ok (.iconst 0, 1) := by decide +kernel
theorem dX3_undo_13 : decode cX3_undo 13 = .ok (.invokevirtual 130, 3) := by decide +kernel
theorem dX3_undo_16 : decode cX3_undo 16 = .ok (.ifCond .eq 5, 3) := by decide +kernel
theorem dX3_undo_19 : decode cX3_undo 19 = .ok (.iconst 0, 1) := by decide +kernel
theorem dX3_undo_20 : decode cX3_undo 20 = .ok (.ireturn, 1) := by decide +kernel
theorem dX3_undo_21 : decode cX3_undo 21 = .ok (.aload_n 0, 1) := by decide +kernel
theorem dX3_undo_22 : decode cX3_undo 22 = .ok (.dup, 1) := by decide +kernel
theorem dX3_undo_23 : decode cX3_undo 23 = .ok (.getfield 191, 3) := by decide +kernel
theorem dX3_undo_26 : decode cX3_undo 26 = .ok (.iconst 1, 1) := by decide +kernel
theorem dX3_undo_27 : decode cX3_undo 27 = .ok (.isub, 1) := by decide +kernel
theorem dX3_undo_28 : decode cX3_undo 28 = .ok (.putfield 191, 3) := by decide +kernel
theorem dX3_undo_31 : decode cX3_undo 31 = .ok (.aload_n 0, 1) := by decide +kernel
theorem dX3_undo_32 : decode cX3_undo 32 = .ok (.getfield 19, 3) := by decide +kernel
theorem dX3_undo_35 : decode cX3_undo 35 = .ok (.bipush 121, 2) := by decide +kernel
theorem dX3_undo_37 : decode cX3_undo 37 = .ok (.aload_n 0, 1) := by decide +kernel
theorem dX3_undo_38 : decode cX3_undo 38 = .ok (.getfield 191, 3) := by decide +kernel
theorem dX3_undo_41 : decode cX3_undo 41 = .ok (.imul, 1) := by decide +kernel
theorem dX3_undo_42 : decode cX3_undo 42 = .ok (.aload_n 0, 1) := by decide +kernel
theorem dX3_undo_43 : decode cX3_undo 43 = .ok (.getfield 13, 3) := by decide +kernel
theorem dX3_undo_46 : decode cX3_undo 46 = .ok (.iconst 0, 1) := by decide +kernel
theorem dX3_undo_47 : decode cX3_undo 47 = .ok (.invokestatic 187, 3) := by decide +kernel
theorem dX3_undo_50 : decode cX3_undo 50 = .ok (.aload_n 0, 1) := by decide +kernel
theorem dX3_undo_51 : decode cX3_undo 51 = .ok (.getfield 191, 3) := by decide +kernel
theorem dX3_undo_54 : decode cX3_undo 54 = .ok (.ireturn, 1) := by decide +kernel
theorem dX3_emptyIn_0 : decode cX3_emptyIn 0 = .ok (.aload_n 0, 1) := by decide +kernel
theorem dX3_emptyIn_1 : decode cX3_emptyIn 1 = .ok (.aload_n 0, 1) := by decide +kernel
theorem dX3_emptyIn_2 : decode cX3_emptyIn 2 = .ok (.getfield 13, 3) := by decide +kernel
theorem dX3_emptyIn_5 : decode cX3_emptyIn 5 = .ok (.iload_n 1, 1) := by decide +kernel
theorem dX3_emptyIn_6 : decode cX3_emptyIn 6 = .ok (.invokestatic 44, 3) := by decide +kernel
theorem dX3_emptyIn_9 : decode cX3_emptyIn 9 = .ok (.ifCond .eq 7, 3) := by decide +kernel
theorem dX3_emptyIn_12 : decode cX3_emptyIn 12 = .ok (.iconst 0, 1) := by decide +kernel
theorem dX3_emptyIn_13 : decode cX3_emptyIn 13 = .ok (.goto 4, 3) := by decide +kernel
theorem dX3_emptyIn_16 : decode cX3_emptyIn 16 = .ok (.iconst 1, 1) := by decide +kernel
theorem dX3_emptyIn_17 : decode cX3_emptyIn 17 = .ok (.invokevirtual 130, 3) := by decide +kernel
theorem dX3_emptyIn_20 : decode cX3_emptyIn 20 = .ok (.ifCond .eq 5, 3) := by decide +kernel
theorem dX3_emptyIn_23 : decode cX3_emptyIn 23 = .ok (.iconst 0, 1) := by decide +kernel
theorem dX3_emptyIn_24 : decode cX3_emptyIn 24 = .ok (.ireturn, 1) := by decide +kernel
theorem dX3_emptyIn_25 : decode cX3_emptyIn 25 = .ok (.aload_n 0, 1) := by decide +kernel
theorem dX3_emptyIn_26 : decode cX3_emptyIn 26 = .ok (.getfield 13, 3) := by decide +kernel
theorem dX3_emptyIn_29 : decode cX3_emptyIn 29 = .ok (.iconst 0, 1) := by decide +kernel
theorem dX3_emptyIn_30 : decode cX3_emptyIn 30 = .ok (.aload_n 0, 1) := by decide +kernel
theorem dX3_emptyIn_31 : decode cX3_emptyIn 31 = .ok (.getfield 16, 3) := by decide +kernel
theorem dX3_emptyIn_34 : decode cX3_emptyIn 34 = .ok (.iconst 0, 1) := by decide +kernel
theorem dX3_emptyIn_35 : decode cX3_emptyIn 35 = .ok (.invokestatic 187, 3) := by decide +kernel
theorem dX3_emptyIn_38 : decode cX3_emptyIn 38 = .ok (.iconst 0, 1) := by decide +kernel
theorem dX3_emptyIn_39 : decode cX3_emptyIn 39 = .ok (.istore_n 2, 1) := by decide +kernel
theorem dX3_emptyIn_40 : decode cX3_emptyIn 40 = .ok (.iload_n 2, 1) := by decide +kernel
theorem dX3_emptyIn_41 : decode cX3_emptyIn 41 = .ok (.sipush 400, 3) := by decide +kernel
theorem dX3_emptyIn_44 : decode cX3_emptyIn 44 = .ok (.if_icmp .gt 31, 3) := by decide +kernel
theorem dX3_emptyIn_47 : decode cX3_emptyIn 47 = .ok (.aload_n 0, 1) := by decide +kernel
theorem dX3_emptyIn_48 : decode cX3_emptyIn 48 = .ok (.getfield 16, 3) := by decide +kernel
theorem dX3_emptyIn_51 : decode cX3_emptyIn 51 = .ok (.iload_n 1, 1) := by decide +kernel
theorem dX3_emptyIn_52 : decode cX3_emptyIn 52 = .ok (.iconst 0, 1) := by decide +kernel
theorem dX3_emptyIn_53 : decode cX3_emptyIn 53 = .ok (.invokestatic 48, 3) := by decide +kernel
theorem dX3_emptyIn_56 : decode cX3_emptyIn 56 = .ok (.ifCond .ne 5, 3) := by decide +kernel
theorem dX3_emptyIn_59 : decode cX3_emptyIn 59 = .ok (.iload_n 2, 1) := by decide +kernel
theorem dX3_emptyIn_60 : decode cX3_emptyIn 60 = .ok (.ireturn, 1) := by decide +kernel
theorem dX3_emptyIn_61 : decode cX3_emptyIn 61 = .ok (.aload_n 0, 1) := by decide +kernel
theorem dX3_emptyIn_62 : decode cX3_emptyIn 62 = .ok (.aload_n 0, 1) := by decide +kernel
theorem dX3_emptyIn_63 : decode cX3_emptyIn 63 = .ok (.getfield 16, 3) := by decide +kernel
theorem dX3_emptyIn_66 : decode cX3_emptyIn 66 = .ok (.invokevirtual 107, 3) := by decide +kernel
theorem dX3_emptyIn_69 : decode cX3_emptyIn 69 = .ok (.iinc 2 1, 3) := by decide +kernel
theorem dX3_emptyIn_72 : decode cX3_emptyIn 72 = .ok (.goto (-32), 3) := by decide +kernel
theorem dX3_emptyIn_75 : decode cX3_emptyIn 75 = .ok (.iconst (-1), 1) := by decide +kernel
theorem dX3_emptyIn_76 : decode cX3_emptyIn 76 = .ok (.ireturn, 1) := by decide +kernel
theorem dX3_through_0 : decode cX3_through 0 = .ok (.iload_n 3, 1) := by decide +kernel
theorem dX3_through_1 : decode cX3_through 1 = .ok (.istore 4, 2) := by decide +kernel
theorem dX3_through_3 : decode cX3_through 3 = .ok (.iconst 0, 1) := by decide +kernel
theorem dX3_through_4 : decode cX3_through 4 = .ok (.istore 5, 2) := by decide +kernel
theorem dX3_through_6 : decode cX3_through 6 = .ok (.iload 5, 2) := by decide +kernel
theorem dX3_through_8 : decode cX3_through 8 = .ok (.sipush 400, 3) := by decide +kernel
theorem dX3_through_11 : decode cX3_through 11 = .ok (.if_icmp .gt 51, 3) := by decide +kernel
theorem dX3_through_14 : decode cX3_through 14 = .ok (.aload_n 1, 1) := by decide +kernel
theorem dX3_through_15 : decode cX3_through 15 = .ok (.iload_n 2, 1) := by decide +kernel
theorem dX3_through_16 : decode cX3_through 16 = .ok (.iload 4, 2) := by decide +kernel
theorem dX3_through_18 : decode cX3_through 18 = .ok (.invokestatic 60, 3) := by decide +kernel
theorem dX3_through_21 : decode cX3_through 21 = .ok (.bipush 20, 2) := by decide +kernel
theorem dX3_through_23 : decode cX3_through 23 = .ok (.if_icmp .le 6, 3) := by decide +kernel
theorem dX3_through_26 : decode cX3_through 26 = .ok (.iload 5, 2) := by decide +kernel
theorem dX3_through_28 : decode cX3_through 28 = .ok (.ireturn, 1) := by decide +kernel
theorem dX3_through_29 : decode cX3_through 29 = .ok (.aload_n 1, 1) := by decide +kernel
theorem dX3_through_30 : decode cX3_through 30 = .ok (.iload_n 2, 1) := by decide +kernel
theorem dX3_through_31 : decode cX3_through 31 = .ok (.iconst 0, 1) := by decide +kernel
theorem dX3_through_32 : decode cX3_through 32 = .ok (.invokestatic 48, 3) := by decide +kernel
theorem dX3_through_35 : decode cX3_through 35 = .ok (.istore 6, 2) := by decide +kernel
theorem dX3_through_37 : decode cX3_through 37 = .ok (.aload_n 0, 1) := by decide +kernel
theorem dX3_through_38 : decode cX3_through 38 = .ok (.aload_n 1, 1) := by decide +kernel
theorem dX3_through_39 : decode cX3_through 39 = .ok (.invokevirtual 107, 3) := by decide +kernel
theorem dX3_through_42 : decode cX3_through 42 = .ok (.iload 4, 2) := by decide +kernel
theorem dX3_through_44 : decode cX3_through 44 = .ok (.iload 6, 2) := by decide +kernel
theorem dX3_through_46 : decode cX3_through 46 = .ok (.aload_n 1, 1) := by decide +kernel
theorem dX3_through_47 : decode cX3_through 47 = .ok (.iload_n 2, 1) := by decide +kernel
theorem dX3_through_48 : decode cX3_through 48 = .ok (.iconst 0, 1) := by decide +kernel
theorem dX3_through_49 : decode cX3_through 49 = .ok (.invokestatic 48, 3) := by decide +kernel
theorem dX3_through_52 : decode cX3_through 52 = .ok (.isub, 1) := by decide +kernel
theorem dX3_through_53 : decode cX3_through 53 = .ok (.isub, 1) := by decide +kernel
theorem dX3_through_54 : decode cX3_through 54 = .ok (.istore 4, 2) := by decide +kernel
theorem dX3_through_56 : decode cX3_through 56 = .ok (.iinc 5 1, 3) := by decide +kernel
theorem dX3_through_59 : decode cX3_through 59 = .ok (.goto (-53), 3) := by decide +kernel
theorem dX3_through_62 : decode cX3_through 62 = .ok (.iconst (-1), 1) := by decide +kernel
theorem dX3_through_63 : decode cX3_through 63 = .ok (.ireturn, 1) := by decide +kernel
theorem dX3_throughIn_0 : decode cX3_throughIn 0 = .ok (.aload_n 0, 1) := by decide +kernel
theorem dX3_throughIn_1 : decode cX3_throughIn 1 = .ok (.aload_n 0, 1) := by decide +kernel
theorem dX3_throughIn_2 : decode cX3_throughIn 2 = .ok (.getfield 13, 3) := by decide +kernel
theorem dX3_throughIn_5 : decode cX3_throughIn 5 = .ok (.iload_n 1, 1) := by decide +kernel
theorem dX3_throughIn_6 : decode cX3_throughIn 6 = .ok (.iload_n 2, 1) := by decide +kernel
theorem dX3_throughIn_7 : decode cX3_throughIn 7 = .ok (.invokestatic 196, 3) := by decide +kernel
theorem dX3_throughIn_10 : decode cX3_throughIn 10 = .ok (.ifCond .eq 7, 3) := by decide +kernel
theorem dX3_throughIn_13 : decode cX3_throughIn 13 = .ok (.iconst 0, 1) := by decide +kernel
theorem dX3_throughIn_14 : decode cX3_throughIn 14 = .ok (.goto 4, 3) := by decide +kernel
theorem dX3_throughIn_17 : decode cX3_throughIn 17 = .ok (.iconst 1, 1) := by decide +kernel
theorem dX3_throughIn_18 : decode cX3_throughIn 18 = .ok (.invokevirtual 130, 3) := by decide +kernel
theorem dX3_throughIn_21 : decode cX3_throughIn 21 = .ok (.ifCond .eq 5, 3) := by decide +kernel
theorem dX3_throughIn_24 : decode cX3_throughIn 24 = .ok (.iconst 0, 1) := by decide +kernel
theorem dX3_throughIn_25 : decode cX3_throughIn 25 = .ok (.ireturn, 1) := by decide +kernel
theorem dX3_throughIn_26 : decode cX3_throughIn 26 = .ok (.aload_n 0, 1) := by decide +kernel
theorem dX3_throughIn_27 : decode cX3_throughIn 27 = .ok (.getfield 13, 3) := by decide +kernel
theorem dX3_throughIn_30 : decode cX3_throughIn 30 = .ok (.iconst 0, 1) := by decide +kernel
theorem dX3_throughIn_31 : decode cX3_throughIn 31 = .ok (.aload_n 0, 1) := by decide +kernel
theorem dX3_throughIn_32 : decode cX3_throughIn 32 = .ok (.getfield 16, 3) := by decide +kernel
theorem dX3_throughIn_35 : decode cX3_throughIn 35 = .ok (.iconst 0, 1) := by decide +kernel
theorem dX3_throughIn_36 : decode cX3_throughIn 36 = .ok (.invokestatic 187, 3) := by decide +kernel
theorem dX3_throughIn_39 : decode cX3_throughIn 39 = .ok (.aload_n 0, 1) := by decide +kernel
theorem dX3_throughIn_40 : decode cX3_throughIn 40 = .ok (.aload_n 0, 1) := by decide +kernel
theorem dX3_throughIn_41 : decode cX3_throughIn 41 = .ok (.getfield 16, 3) := by decide +kernel
theorem dX3_throughIn_44 : decode cX3_throughIn 44 = .ok (.iload_n 1, 1) := by decide +kernel
theorem dX3_throughIn_45 : decode cX3_throughIn 45 = .ok (.iload_n 2, 1) := by decide +kernel
theorem dX3_throughIn_46 : decode cX3_throughIn 46 = .ok (.invokevirtual 211, 3) := by decide +kernel
theorem dX3_throughIn_49 : decode cX3_throughIn 49 = .ok (.ireturn, 1) := by decide +kernel
theorem dX3_bestLane_0 : decode cX3_bestLane 0 = .ok (.aload_n 0, 1) := by decide +kernel
theorem dX3_bestLane_1 : decode cX3_bestLane 1 = .ok (.iload_n 1, 1) := by decide +kernel
theorem dX3_bestLane_2 : decode cX3_bestLane 2 = .ok (.invokestatic 114, 3) := by decide +kernel
theorem dX3_bestLane_5 : decode cX3_bestLane 5 = .ok (.ifCond .eq 7, 3) := by decide +kernel
theorem dX3_bestLane_8 : decode cX3_bestLane 8 = .ok (.iconst 0, 1) := by decide +kernel
theorem dX3_bestLane_9 : decode cX3_bestLane 9 = .ok (.goto 4, 3) := by decide +kernel
theorem dX3_bestLane_12 : decode cX3_bestLane 12 = .ok (.iconst 1, 1) := by decide +kernel
theorem dX3_bestLane_13 : decode cX3_bestLane 13 = .ok (.invokevirtual 130, 3) := by decide +kernel
theorem dX3_bestLane_16 : decode cX3_bestLane 16 = .ok (.ifCond .eq 5, 3) := by decide +kernel
theorem dX3_bestLane_19 : decode cX3_bestLane 19 = .ok (.iconst 0, 1) := by decide +kernel
theorem dX3_bestLane_20 : decode cX3_bestLane 20 = .ok (.ireturn, 1) := by decide +kernel
theorem dX3_bestLane_21 : decode cX3_bestLane 21 = .ok (.iconst (-1), 1) := by decide +kernel
theorem dX3_bestLane_22 : decode cX3_bestLane 22 = .ok (.istore_n 2, 1) := by decide +kernel
theorem dX3_bestLane_23 : decode cX3_bestLane 23 = .ok (.iconst 0, 1) := by decide +kernel
theorem dX3_bestLane_24 : decode cX3_bestLane 24 = .ok (.istore_n 3, 1) := by decide +kernel
theorem dX3_bestLane_25 : decode cX3_bestLane 25 = .ok (.iconst 0, 1) := by decide +kernel
theorem dX3_bestLane_26 : decode cX3_bestLane 26 = .ok (.istore 4, 2) := by decide +kernel
theorem dX3_bestLane_28 : decode cX3_bestLane 28 = .ok (.iload 4, 2) := by decide +kernel
theorem dX3_bestLane_30 : decode cX3_bestLane 30 = .ok (.aload_n 0, 1) := by decide +kernel
theorem dX3_bestLane_31 : decode cX3_bestLane 31 = .ok (.getfield 13, 3) := by decide +kernel
theorem dX3_bestLane_34 : decode cX3_bestLane 34 = .ok (.iconst 0, 1) := by decide +kernel
theorem dX3_bestLane_35 : decode cX3_bestLane 35 = .ok (.iaload, 1) := by decide +kernel
theorem dX3_bestLane_36 : decode cX3_bestLane 36 = .ok (.if_icmp .ge 111, 3) := by decide +kernel
theorem dX3_bestLane_39 : decode cX3_bestLane 39 = .ok (.aload_n 0, 1) := by decide +kernel
theorem dX3_bestLane_40 : decode cX3_bestLane 40 = .ok (.getfield 13, 3) := by decide +kernel
theorem dX3_bestLane_43 : decode cX3_bestLane 43 = .ok (.iload 4, 2) := by decide +kernel
theorem dX3_bestLane_45 : decode cX3_bestLane 45 = .ok (.iconst 0, 1) := by decide +kernel
theorem dX3_bestLane_46 : decode cX3_bestLane 46 = .ok (.invokestatic 48, 3) := by decide +kernel
theorem dX3_bestLane_49 : decode cX3_bestLane 49 = .ok (.bipush 6, 2) := by decide +kernel
theorem dX3_bestLane_51 : decode cX3_bestLane 51 = .ok (.if_icmp .ge 90, 3) := by decide +kernel
theorem dX3_bestLane_54 : decode cX3_bestLane 54 = .ok (.aload_n 0, 1) := by decide +kernel
theorem dX3_bestLane_55 : decode cX3_bestLane 55 = .ok (.getfield 13, 3) := by decide +kernel
theorem dX3_bestLane_58 : decode cX3_bestLane 58 = .ok (.iconst 0, 1) := by decide +kernel
theorem dX3_bestLane_59 : decode cX3_bestLane 59 = .ok (.aload_n 0, 1) := by decide +kernel
theorem dX3_bestLane_60 : decode cX3_bestLane 60 = .ok (.getfield 16, 3) := by decide +kernel
theorem dX3_bestLane_63 : decode cX3_bestLane 63 = .ok (.iconst 0, 1) := by decide +kernel
theorem dX3_bestLane_64 : decode cX3_bestLane 64 = .ok (.invokestatic 187, 3) := by decide +kernel
theorem dX3_bestLane_67 : decode cX3_bestLane 67 = .ok (.aload_n 0, 1) := by decide +kernel
theorem dX3_bestLane_68 : decode cX3_bestLane 68 = .ok (.aload_n 0, 1) := by decide +kernel
theorem dX3_bestLane_69 : decode cX3_bestLane 69 = .ok (.getfield 16, 3) := by decide +kernel
theorem dX3_bestLane_72 : decode cX3_bestLane 72 = .ok (.iload 4, 2) := by decide +kernel
theorem dX3_bestLane_74 : decode cX3_bestLane 74 = .ok (.aload_n 0, 1) := by decide +kernel
theorem dX3_bestLane_75 : decode cX3_bestLane 75 = .ok (.getfield 16, 3) := by decide +kernel
theorem dX3_bestLane_78 : decode cX3_bestLane 78 = .ok (.iload 4, 2) := by decide +kernel
theorem dX3_bestLane_80 : decode cX3_bestLane 80 = .ok (.iload_n 1, 1) := by decide +kernel
theorem dX3_bestLane_81 : decode cX3_bestLane 81 = .ok (.iconst 0, 1) := by decide +kernel
theorem dX3_bestLane_82 : decode cX3_bestLane 82 = .ok (.iconst 0, 1) := by decide +kernel
theorem dX3_bestLane_83 : decode cX3_bestLane 83 = .ok (.invokestatic 163, 3) := by decide +kernel
theorem dX3_bestLane_86 : decode cX3_bestLane 86 = .ok (.iconst 1, 1) := by decide +kernel
theorem dX3_bestLane_87 : decode cX3_bestLane 87 = .ok (.isub, 1) := by decide +kernel
theorem dX3_bestLane_88 : decode cX3_bestLane 88 = .ok (.invokevirtual 211, 3) := by decide +kernel
theorem dX3_bestLane_91 : decode cX3_bestLane 91 = .ok (.istore 5, 2) := by decide +kernel
theorem dX3_bestLane_93 : decode cX3_bestLane 93 = .ok (.iload 5, 2) := by decide +kernel
theorem dX3_bestLane_95 : decode cX3_bestLane 95 = .ok (.iconst (-1), 1) := by decide +kernel
theorem dX3_bestLane_96 : decode cX3_bestLane 96 = .ok (.if_icmp .eq 18, 3) := by decide +kernel
theorem dX3_bestLane_99 : decode cX3_bestLane 99 = .ok (.iload_n 2, 1) := by decide +kernel
theorem dX3_bestLane_100 : decode cX3_bestLane 100 = .ok (.iconst (-1), 1) := by decide +kernel
theorem dX3_bestLane_101 : decode cX3_bestLane 101 = .ok (.if_icmp .eq 9, 3) := by decide +kernel
theorem dX3_bestLane_104 : decode cX3_bestLane 104 = .ok (.iload 5, 2) := by decide +kernel
theorem dX3_bestLane_106 : decode cX3_bestLane 106 = .ok (.iload_n 3, 1) := by decide +kernel
theorem dX3_bestLane_107 : decode cX3_bestLane 107 = .ok (.if_icmp .ge 7, 3) := by decide +kernel
theorem dX3_bestLane_110 : decode cX3_bestLane 110 = .ok (.iconst 1, 1) := by decide +kernel
theorem dX3_bestLane_111 : decode cX3_bestLane 111 = .ok (.goto 4, 3) := by decide +kernel
theorem dX3_bestLane_114 : decode cX3_bestLane 114 = .ok (.iconst 0, 1) := by decide +kernel
theorem dX3_bestLane_115 : decode cX3_bestLane 115 = .ok (.istore 6, 2) := by decide +kernel
theorem dX3_bestLane_117 : decode cX3_bestLane 117 = .ok (.iload 6, 2) := by decide +kernel
theorem dX3_bestLane_119 : decode cX3_bestLane 119 = .ok (.ifCond .eq 8, 3) := by decide +kernel
theorem dX3_bestLane_122 : decode cX3_bestLane 122 = .ok (.iload 4, 2) := by decide +kernel
theorem dX3_bestLane_124 : decode cX3_bestLane 124 = .ok (.goto 4, 3) := by decide +kernel
theorem dX3_bestLane_127 : decode cX3_bestLane 127 = .ok (.iload_n 2, 1) := by decide +kernel
theorem dX3_bestLane_128 : decode cX3_bestLane 128 = .ok (.istore_n 2, 1) := by decide +kernel
theorem dX3_bestLane_129 : decode cX3_bestLane 129 = .ok (.iload 6, 2) := by decide +kernel
theorem dX3_bestLane_131 : decode cX3_bestLane 131 = .ok (.ifCond .eq 8, 3) := by decide +kernel
theorem dX3_bestLane_134 : decode cX3_bestLane 134 = .ok (.iload 5, 2) := by decide +kernel
theorem dX3_bestLane_136 : decode cX3_bestLane 136 = .ok (.goto 4, 3) := by decide +kernel
theorem dX3_bestLane_139 : decode cX3_bestLane 139 = .ok (.iload_n 3, 1) := by decide +kernel
theorem dX3_bestLane_140 : decode cX3_bestLane 140 = .ok (.istore_n 3, 1) := by decide +kernel
theorem dX3_bestLane_141 : decode cX3_bestLane 141 = .ok (.iinc 4 1, 3) := by decide +kernel
theorem dX3_bestLane_144 : decode cX3_bestLane 144 = .ok (.goto (-116), 3) := by decide +kernel
theorem dX3_bestLane_147 : decode cX3_bestLane 147 = .ok (.iload_n 2, 1) := by decide +kernel
theorem dX3_bestLane_148 : decode cX3_bestLane 148 = .ok (.ireturn, 1) := by decide +kernel
theorem dX3_coming_0 : decode cX3_coming 0 = .ok (.aload_n 0, 1) := by decide +kernel
theorem dX3_coming_1 : decode cX3_coming 1 = .ok (.iload_n 1, 1) := by decide +kernel
theorem dX3_coming_2 : decode cX3_coming 2 = .ok (.i2l, 1) := by decide +kernel
theorem dX3_coming_3 : decode cX3_coming 3 = .ok (.lconst 1, 1) := by decide +kernel
theorem dX3_coming_4 : decode cX3_coming 4 = .ok (.ldc2_w 214, 3) := by decide +kernel
theorem dX3_coming_7 : decode cX3_coming 7 = .ok (.invokestatic 40, 3) := by decide +kernel
theorem dX3_coming_10 : decode cX3_coming 10 = .ok (.ifCond .eq 19, 3) := by decide +kernel
theorem dX3_coming_13 : decode cX3_coming 13 = .ok (.iload_n 2, 1) := by decide +kernel
theorem dX3_coming_14 : decode cX3_coming 14 = .ok (.i2l, 1) := by decide +kernel
theorem dX3_coming_15 : decode cX3_coming 15 = .ok (.lconst 0, 1) := by decide +kernel
theorem dX3_coming_16 : decode cX3_coming 16 = .ok (.ldc2_w 199, 3) := by decide +kernel
theorem dX3_coming_19 : decode cX3_coming 19 = .ok (.invokestatic 40, 3) := by decide +kernel
theorem dX3_coming_22 : decode cX3_coming 22 = .ok (.ifCond .eq 7, 3) := by decide +kernel
theorem dX3_coming_25 : decode cX3_coming 25 = .ok (.iconst 0, 1) := by decide +kernel
theorem dX3_coming_26 : decode cX3_coming 26 = .ok (.goto 4, 3) := by decide +kernel
theorem dX3_coming_29 : decode cX3_coming 29 = .ok (.iconst 1, 1) := by decide +kernel
theorem dX3_coming_30 : decode cX3_coming 30 = .ok (.invokevirtual 130, 3) := by decide +kernel
theorem dX3_coming_33 : decode cX3_coming 33 = .ok (.ifCond .eq 5, 3) := by decide +kernel
theorem dX3_coming_36 : decode cX3_coming 36 = .ok (.iconst 0, 1) := by decide +kernel
theorem dX3_coming_37 : decode cX3_coming 37 = .ok (.ireturn, 1) := by decide +kernel
theorem dX3_coming_38 : decode cX3_coming 38 = .ok (.aload_n 0, 1) := by decide +kernel
theorem dX3_coming_39 : decode cX3_coming 39 = .ok (.getfield 13, 3) := by decide +kernel
theorem dX3_coming_42 : decode cX3_coming 42 = .ok (.iconst 0, 1) := by decide +kernel
theorem dX3_coming_43 : decode cX3_coming 43 = .ok (.aload_n 0, 1) := by decide +kernel
theorem dX3_coming_44 : decode cX3_coming 44 = .ok (.getfield 16, 3) := by decide +kernel
theorem dX3_coming_47 : decode cX3_coming 47 = .ok (.iconst 0, 1) := by decide +kernel
theorem dX3_coming_48 : decode cX3_coming 48 = .ok (.invokestatic 187, 3) := by decide +kernel
theorem dX3_coming_51 : decode cX3_coming 51 = .ok (.aload_n 0, 1) := by decide +kernel
theorem dX3_coming_52 : decode cX3_coming 52 = .ok (.iconst 0, 1) := by decide +kernel
theorem dX3_coming_53 : decode cX3_coming 53 = .ok (.putfield 98, 3) := by decide +kernel
theorem dX3_coming_56 : decode cX3_coming 56 = .ok (.aload_n 0, 1) := by decide +kernel
theorem dX3_coming_57 : decode cX3_coming 57 = .ok (.aload_n 0, 1) := by decide +kernel
theorem dX3_coming_58 : decode cX3_coming 58 = .ok (.getfield 16, 3) := by decide +kernel
theorem dX3_coming_61 : decode cX3_coming 61 = .ok (.iload_n 1, 1) := by decide +kernel
theorem dX3_coming_62 : decode cX3_coming 62 = .ok (.invokevirtual 177, 3) := by decide +kernel
theorem dX3_coming_65 : decode cX3_coming 65 = .ok (.pop, 1) := by decide +kernel
theorem dX3_coming_66 : decode cX3_coming 66 = .ok (.iload_n 2, 1) := by decide +kernel
theorem dX3_coming_67 : decode cX3_coming 67 = .ok (.tableswitch 80 0 3 #[29, 43, 57, 71], 29) := by decide +kernel
theorem dX3_coming_96 : decode cX3_coming 96 = .ok (.aload_n 0, 1) := by decide +kernel
theorem dX3_coming_97 : decode cX3_coming 97 = .ok (.getfield 16, 3) := by decide +kernel
theorem dX3_coming_100 : decode cX3_coming 100 = .ok (.iconst 3, 1) := by decide +kernel
theorem dX3_coming_101 : decode cX3_coming 101 = .ok (.iaload, 1) := by decide +kernel
theorem dX3_coming_102 : decode cX3_coming 102 = .ok (.aload_n 0, 1) := by decide +kernel
theorem dX3_coming_103 : decode cX3_coming 103 = .ok (.getfield 13, 3) := by decide +kernel
theorem dX3_coming_106 : decode cX3_coming 106 = .ok (.iconst 3, 1) := by decide +kernel
theorem dX3_coming_107 : decode cX3_coming 107 = .ok (.iaload, 1) := by decide +kernel
theorem dX3_coming_108 : decode cX3_coming 108 = .ok (.isub, 1) := by decide +kernel
theorem dX3_coming_109 : decode cX3_coming 109 = .ok (.ireturn, 1) := by decide +kernel
theorem dX3_coming_110 : decode cX3_coming 110 = .ok (.aload_n 0, 1) := by decide +kernel
theorem dX3_coming_111 : decode cX3_coming 111 = .ok (.getfield 16, 3) := by decide +kernel
theorem dX3_coming_114 : decode cX3_coming 114 = .ok (.iconst 4, 1) := by decide +kernel
theorem dX3_coming_115 : decode cX3_coming 115 = .ok (.iaload, 1) := by decide +kernel
theorem dX3_coming_116 : decode cX3_coming 116 = .ok (.aload_n 0, 1) := by decide +kernel
theorem dX3_coming_117 : decode cX3_coming 117 = .ok (.getfield 13, 3) := by decide +kernel
theorem dX3_coming_120 : decode cX3_coming 120 = .ok (.iconst 4, 1) := by decide +kernel
theorem dX3_coming_121 : decode cX3_coming 121 = .ok (.iaload, 1) := by decide +kernel
theorem dX3_coming_122 : decode cX3_coming 122 = .ok (.isub, 1) := by decide +kernel
theorem dX3_coming_123 : decode cX3_coming 123 = .ok (.ireturn, 1) := by decide +kernel
theorem dX3_coming_124 : decode cX3_coming 124 = .ok (.aload_n 0, 1) := by decide +kernel
theorem dX3_coming_125 : decode cX3_coming 125 = .ok (.getfield 16, 3) := by decide +kernel
theorem dX3_coming_128 : decode cX3_coming 128 = .ok (.iconst 5, 1) := by decide +kernel
theorem dX3_coming_129 : decode cX3_coming 129 = .ok (.iaload, 1) := by decide +kernel
theorem dX3_coming_130 : decode cX3_coming 130 = .ok (.aload_n 0, 1) := by decide +kernel
theorem dX3_coming_131 : decode cX3_coming 131 = .ok (.getfield 13, 3) := by decide +kernel
theorem dX3_coming_134 : decode cX3_coming 134 = .ok (.iconst 5, 1) := by decide +kernel
theorem dX3_coming_135 : decode cX3_coming 135 = .ok (.iaload, 1) := by decide +kernel
theorem dX3_coming_136 : decode cX3_coming 136 = .ok (.isub, 1) := by decide +kernel
theorem dX3_coming_137 : decode cX3_coming 137 = .ok (.ireturn, 1) := by decide +kernel
theorem dX3_coming_138 : decode cX3_coming 138 = .ok (.aload_n 0, 1) := by decide +kernel
theorem dX3_coming_139 : decode cX3_coming 139 = .ok (.getfield 16, 3) := by decide +kernel
theorem dX3_coming_142 : decode cX3_coming 142 = .ok (.iconst 0, 1) := by decide +kernel
theorem dX3_coming_143 : decode cX3_coming 143 = .ok (.invokestatic 118, 3) := by decide +kernel
theorem dX3_coming_146 : decode cX3_coming 146 = .ok (.ireturn, 1) := by decide +kernel
theorem dX3_coming_147 : decode cX3_coming 147 = .ok (.aload_n 0, 1) := by decide +kernel
theorem dX3_coming_148 : decode cX3_coming 148 = .ok (.getfield 98, 3) := by decide +kernel
theorem dX3_coming_151 : decode cX3_coming 151 = .ok (.ireturn, 1) := by decide +kernel
theorem dX3_hitsIn_0 : decode cX3_hitsIn 0 = .ok (.aload_n 0, 1) := by decide +kernel
theorem dX3_hitsIn_1 : decode cX3_hitsIn 1 = .ok (.aload_n 0, 1) := by decide +kernel
theorem dX3_hitsIn_2 : decode cX3_hitsIn 2 = .ok (.getfield 13, 3) := by decide +kernel
theorem dX3_hitsIn_5 : decode cX3_hitsIn 5 = .ok (.iload_n 1, 1) := by decide +kernel
theorem dX3_hitsIn_6 : decode cX3_hitsIn 6 = .ok (.invokestatic 44, 3) := by decide +kernel
theorem dX3_hitsIn_9 : decode cX3_hitsIn 9 = .ok (.ifCond .eq 7, 3) := by decide +kernel
theorem dX3_hitsIn_12 : decode cX3_hitsIn 12 = .ok (.iconst 0, 1) := by decide +kernel
theorem dX3_hitsIn_13 : decode cX3_hitsIn 13 = .ok (.goto 4, 3) := by decide +kernel
theorem dX3_hitsIn_16 : decode cX3_hitsIn 16 = .ok (.iconst 1, 1) := by decide +kernel
theorem dX3_hitsIn_17 : decode cX3_hitsIn 17 = .ok (.invokevirtual 130, 3) := by decide +kernel
theorem dX3_hitsIn_20 : decode cX3_hitsIn 20 = .ok (.ifCond .eq 5, 3) := by decide +kernel
theorem dX3_hitsIn_23 : decode cX3_hitsIn 23 = .ok (.iconst 0, 1) := by decide +kernel
theorem dX3_hitsIn_24 : decode cX3_hitsIn 24 = .ok (.ireturn, 1) := by decide +kernel
theorem dX3_hitsIn_25 : decode cX3_hitsIn 25 = .ok (.aload_n 0, 1) := by decide +kernel
theorem dX3_hitsIn_26 : decode cX3_hitsIn 26 = .ok (.getfield 13, 3) := by decide +kernel
theorem dX3_hitsIn_29 : decode cX3_hitsIn 29 = .ok (.iconst 0, 1) := by decide +kernel
theorem dX3_hitsIn_30 : decode cX3_hitsIn 30 = .ok (.aload_n 0, 1) := by decide +kernel
theorem dX3_hitsIn_31 : decode cX3_hitsIn 31 = .ok (.getfield 16, 3) := by decide +kernel
theorem dX3_hitsIn_34 : decode cX3_hitsIn 34 = .ok (.iconst 0, 1) := by decide +kernel
theorem dX3_hitsIn_35 : decode cX3_hitsIn 35 = .ok (.invokestatic 187, 3) := by decide +kernel
theorem dX3_hitsIn_38 : decode cX3_hitsIn 38 = .ok (.aload_n 0, 1) := by decide +kernel
theorem dX3_hitsIn_39 : decode cX3_hitsIn 39 = .ok (.getfield 16, 3) := by decide +kernel
theorem dX3_hitsIn_42 : decode cX3_hitsIn 42 = .ok (.iload_n 1, 1) := by decide +kernel
theorem dX3_hitsIn_43 : decode cX3_hitsIn 43 = .ok (.iconst 4, 1) := by decide +kernel
theorem dX3_hitsIn_44 : decode cX3_hitsIn 44 = .ok (.iconst 1, 1) := by decide +kernel
theorem dX3_hitsIn_45 : decode cX3_hitsIn 45 = .ok (.invokestatic 67, 3) := by decide +kernel
theorem dX3_hitsIn_48 : decode cX3_hitsIn 48 = .ok (.iconst 1, 1) := by decide +kernel
theorem dX3_hitsIn_49 : decode cX3_hitsIn 49 = .ok (.istore_n 2, 1) := by decide +kernel
theorem dX3_hitsIn_50 : decode cX3_hitsIn 50 = .ok (.iload_n 2, 1) := by decide +kernel
theorem dX3_hitsIn_51 : decode cX3_hitsIn 51 = .ok (.sipush 400, 3) := by decide +kernel
theorem dX3_hitsIn_54 : decode cX3_hitsIn 54 = .ok (.if_icmp .gt 44, 3) := by decide +kernel
theorem dX3_hitsIn_57 : decode cX3_hitsIn 57 = .ok (.aload_n 0, 1) := by decide +kernel
theorem dX3_hitsIn_58 : decode cX3_hitsIn 58 = .ok (.getfield 13, 3) := by decide +kernel
theorem dX3_hitsIn_61 : decode cX3_hitsIn 61 = .ok (.iload_n 1, 1) := by decide +kernel
theorem dX3_hitsIn_62 : decode cX3_hitsIn 62 = .ok (.iconst 5, 1) := by decide +kernel
theorem dX3_hitsIn_63 : decode cX3_hitsIn 63 = .ok (.invokestatic 48, 3) := by decide +kernel
theorem dX3_hitsIn_66 : decode cX3_hitsIn 66 = .ok (.ifCond .ne 32, 3) := by decide +kernel
theorem dX3_hitsIn_69 : decode cX3_hitsIn 69 = .ok (.aload_n 0, 1) := by decide +kernel
theorem dX3_hitsIn_70 : decode cX3_hitsIn 70 = .ok (.aload_n 0, 1) := by decide +kernel
theorem dX3_hitsIn_71 : decode cX3_hitsIn 71 = .ok (.getfield 16, 3) := by decide +kernel
theorem dX3_hitsIn_74 : decode cX3_hitsIn 74 = .ok (.invokevirtual 107, 3) := by decide +kernel
theorem dX3_hitsIn_77 : decode cX3_hitsIn 77 = .ok (.aload_n 0, 1) := by decide +kernel
theorem dX3_hitsIn_78 : decode cX3_hitsIn 78 = .ok (.getfield 16, 3) := by decide +kernel
theorem dX3_hitsIn_81 : decode cX3_hitsIn 81 = .ok (.iload_n 1, 1) := by decide +kernel
theorem dX3_hitsIn_82 : decode cX3_hitsIn 82 = .ok (.iconst 5, 1) := by decide +kernel
theorem dX3_hitsIn_83 : decode cX3_hitsIn 83 = .ok (.invokestatic 48, 3) := by decide +kernel
theorem dX3_hitsIn_86 : decode cX3_hitsIn 86 = .ok (.iconst 1, 1) := by decide +kernel
theorem dX3_hitsIn_87 : decode cX3_hitsIn 87 = .ok (.if_icmp .ne 5, 3) := by decide +kernel
theorem dX3_hitsIn_90 : decode cX3_hitsIn 90 = .ok (.iload_n 2, 1) := by decide +kernel
theorem dX3_hitsIn_91 : decode cX3_hitsIn 91 = .ok (.ireturn, 1) := by decide +kernel
theorem dX3_hitsIn_92 : decode cX3_hitsIn 92 = .ok (.iinc 2 1, 3) := by decide +kernel
theorem dX3_hitsIn_95 : decode cX3_hitsIn 95 = .ok (.goto (-45), 3) := by decide +kernel
theorem dX3_hitsIn_98 : decode cX3_hitsIn 98 = .ok (.iconst (-1), 1) := by decide +kernel
theorem dX3_hitsIn_99 : decode cX3_hitsIn 99 = .ok (.ireturn, 1) := by decide +kernel
theorem dX3_command_0 : decode cX3_command 0 = .ok (.iload_n 2, 1) := by decide +kernel
theorem dX3_command_1 : decode cX3_command 1 = .ok (.sipush 1000, 3) := by decide +kernel
theorem dX3_command_4 : decode cX3_command 4 = .ok (.idiv, 1) := by decide +kernel
theorem dX3_command_5 : decode cX3_command 5 = .ok (.istore_n 3, 1) := by decide +kernel
theorem dX3_command_6 : decode cX3_command 6 = .ok (.iload_n 2, 1) := by decide +kernel
theorem dX3_command_7 : decode cX3_command 7 = .ok (.bipush 100, 2) := by decide +kernel
theorem dX3_command_9 : decode cX3_command 9 = .ok (.idiv, 1) := by decide +kernel
theorem dX3_command_10 : decode cX3_command 10 = .ok (.bipush 10, 2) := by decide +kernel
theorem dX3_command_12 : decode cX3_command 12 = .ok (.irem, 1) := by decide +kernel
theorem dX3_command_13 : decode cX3_command 13 = .ok (.istore 4, 2) := by decide +kernel
theorem dX3_command_15 : decode cX3_command 15 = .ok (.iload_n 2, 1) := by decide +kernel
theorem dX3_command_16 : decode cX3_command 16 = .ok (.bipush 10, 2) := by decide +kernel
theorem dX3_command_18 : decode cX3_command 18 = .ok (.idiv, 1) := by decide +kernel
theorem dX3_command_19 : decode cX3_command 19 = .ok (.bipush 100, 2) := by decide +kernel
theorem dX3_command_21 : decode cX3_command 21 = .ok (.irem, 1) := by decide +kernel
theorem dX3_command_22 : decode cX3_command 22 = .ok (.istore 5, 2) := by decide +kernel
theorem dX3_command_24 : decode cX3_command 24 = .ok (.iload_n 2, 1) := by decide +kernel
theorem dX3_command_25 : decode cX3_command 25 = .ok (.bipush 10, 2) := by decide +kernel
theorem dX3_command_27 : decode cX3_command 27 = .ok (.irem, 1) := by decide +kernel
theorem dX3_command_28 : decode cX3_command 28 = .ok (.istore 6, 2) := by decide +kernel
theorem dX3_command_30 : decode cX3_command 30 = .ok (.iload_n 1, 1) := by decide +kernel
theorem dX3_command_31 : decode cX3_command 31 = .ok (.tableswitch 399 1 9 #[49, 111, 141, 193, 229, 258, 296, 337, 359], 49) := by decide +kernel
theorem dX3_command_80 : decode cX3_command 80 = .ok (.iload 6, 2) := by decide +kernel
theorem dX3_command_82 : decode cX3_command 82 = .ok (.iconst 4, 1) := by decide +kernel
theorem dX3_command_83 : decode cX3_command 83 = .ok (.if_icmp .ge 57, 3) := by decide +kernel
theorem dX3_command_86 : decode cX3_command 86 = .ok (.aload_n 0, 1) := by decide +kernel
theorem dX3_command_87 : decode cX3_command 87 = .ok (.getfield 16, 3) := by decide +kernel
theorem dX3_command_90 : decode cX3_command 90 = .ok (.iload_n 3, 1) := by decide +kernel
theorem dX3_command_91 : decode cX3_command 91 = .ok (.iload 5, 2) := by decide +kernel
theorem dX3_command_93 : decode cX3_command 93 = .ok (.invokestatic 160, 3) := by decide +kernel
theorem dX3_command_96 : decode cX3_command 96 = .ok (.ifCond .eq 44, 3) := by decide +kernel
theorem dX3_command_99 : decode cX3_command 99 = .ok (.aload_n 0, 1) := by decide +kernel
theorem dX3_command_100 : decode cX3_command 100 = .ok (.getfield 16, 3) := by decide +kernel
theorem dX3_command_103 : decode cX3_command 103 = .ok (.iload_n 3, 1) := by decide +kernel
theorem dX3_command_104 : decode cX3_command 104 = .ok (.iload 5, 2) := by decide +kernel
theorem dX3_command_106 : decode cX3_command 106 = .ok (.iload 6, 2) := by decide +kernel
theorem dX3_command_108 : decode cX3_command 108 = .ok (.iconst 2, 1) := by decide +kernel
theorem dX3_command_109 : decode cX3_command 109 = .ok (.irem, 1) := by decide +kernel
theorem dX3_command_110 : decode cX3_command 110 = .ok (.iconst 1, 1) := by decide +kernel
theorem dX3_command_111 : decode cX3_command 111 = .ok (.if_icmp .ne 7, 3) := by decide +kernel
theorem dX3_command_114 : decode cX3_command 114 = .ok (.iconst 1, 1) := by decide +kernel
theorem dX3_command_115 : decode cX3_command 115 = .ok (.goto 4, 3) := by decide +kernel
theorem dX3_command_118 : decode cX3_command 118 = .ok (.iconst 0, 1) := by decide +kernel
theorem dX3_command_119 : decode cX3_command 119 = .ok (.iload 6, 2) := by decide +kernel
theorem dX3_command_121 : decode cX3_command 121 = .ok (.iconst 1, 1) := by decide +kernel
theorem dX3_command_122 : decode cX3_command 122 = .ok (.if_icmp .le 7, 3) := by decide +kernel
theorem dX3_command_125 : decode cX3_command 125 = .ok (.iconst 1, 1) := by decide +kernel
theorem dX3_command_126 : decode cX3_command 126 = .ok (.goto 4, 3) := by decide +kernel
theorem dX3_command_129 : decode cX3_command 129 = .ok (.iconst 0, 1) := by decide +kernel
theorem dX3_command_130 : decode cX3_command 130 = .ok (.invokestatic 163, 3) := by decide +kernel
theorem dX3_command_133 : decode cX3_command 133 = .ok (.ifCond .le 7, 3) := by decide +kernel
theorem dX3_command_136 : decode cX3_command 136 = .ok (.iconst 1, 1) := by decide +kernel
theorem dX3_command_137 : decode cX3_command 137 = .ok (.goto 4, 3) := by decide +kernel
theorem dX3_command_140 : decode cX3_command 140 = .ok (.iconst 0, 1) := by decide +kernel
theorem dX3_command_141 : decode cX3_command 141 = .ok (.ireturn, 1) := by decide +kernel
theorem dX3_command_142 : decode cX3_command 142 = .ok (.iload_n 2, 1) := by decide +kernel
theorem dX3_command_143 : decode cX3_command 143 = .ok (.i2l, 1) := by decide +kernel
theorem dX3_command_144 : decode cX3_command 144 = .ok (.lconst 1, 1) := by decide +kernel
theorem dX3_command_145 : decode cX3_command 145 = .ok (.ldc2_w 123, 3) := by decide +kernel
theorem dX3_command_148 : decode cX3_command 148 = .ok (.invokestatic 40, 3) := by decide +kernel
theorem dX3_command_151 : decode cX3_command 151 = .ok (.ifCond .eq 19, 3) := by decide +kernel
theorem dX3_command_154 : decode cX3_command 154 = .ok (.aload_n 0, 1) := by decide +kernel
theorem dX3_command_155 : decode cX3_command 155 = .ok (.aload_n 0, 1) := by decide +kernel
theorem dX3_command_156 : decode cX3_command 156 = .ok (.getfield 16, 3) := by decide +kernel
theorem dX3_command_159 : decode cX3_command 159 = .ok (.iload_n 2, 1) := by decide +kernel
theorem dX3_command_160 : decode cX3_command 160 = .ok (.invokevirtual 177, 3) := by decide +kernel
theorem dX3_command_163 : decode cX3_command 163 = .ok (.ifCond .lt 7, 3) := by decide +kernel
theorem dX3_command_166 : decode cX3_command 166 = .ok (.iconst 1, 1) := by decide +kernel
theorem dX3_command_167 : decode cX3_command 167 = .ok (.goto 4, 3) := by decide +kernel
theorem dX3_command_170 : decode cX3_command 170 = .ok (.iconst 0, 1) := by decide +kernel
theorem dX3_command_171 : decode cX3_command 171 = .ok (.ireturn, 1) := by decide +kernel
theorem dX3_command_172 : decode cX3_command 172 = .ok (.iload 4, 2) := by decide +kernel
theorem dX3_command_174 : decode cX3_command 174 = .ok (.iconst 2, 1) := by decide +kernel
theorem dX3_command_175 : decode cX3_command 175 = .ok (.if_icmp .ge 47, 3) := by decide +kernel
theorem dX3_command_178 : decode cX3_command 178 = .ok (.iload_n 2, 1) := by decide +kernel
theorem dX3_command_179 : decode cX3_command 179 = .ok (.bipush 100, 2) := by decide +kernel
theorem dX3_command_181 : decode cX3_command 181 = .ok (.irem, 1) := by decide +kernel
theorem dX3_command_182 : decode cX3_command 182 = .ok (.ifCond .ne 40, 3) := by decide +kernel
theorem dX3_command_185 : decode cX3_command 185 = .ok (.aload_n 0, 1) := by decide +kernel
theorem dX3_command_186 : decode cX3_command 186 = .ok (.getfield 16, 3) := by decide +kernel
theorem dX3_command_189 : decode cX3_command 189 = .ok (.iload_n 3, 1) := by decide +kernel
theorem dX3_command_190 : decode cX3_command 190 = .ok (.invokestatic 44, 3) := by decide +kernel
theorem dX3_command_193 : decode cX3_command 193 = .ok (.ifCond .eq 29, 3) := by decide +kernel
theorem dX3_command_196 : decode cX3_command 196 = .ok (.aload_n 0, 1) := by decide +kernel
theorem dX3_command_197 : decode cX3_command 197 = .ok (.getfield 16, 3) := by decide +kernel
theorem dX3_command_200 : decode cX3_command 200 = .ok (.iload_n 3, 1) := by decide +kernel
theorem dX3_command_201 : decode cX3_command 201 = .ok (.iload 4, 2) := by decide +kernel
theorem dX3_command_203 : decode cX3_command 203 = .ok (.iconst 1, 1) := by decide +kernel
theorem dX3_command_204 : decode cX3_command 204 = .ok (.if_icmp .ne 7, 3) := by decide +kernel
theorem dX3_command_207 : decode cX3_command 207 = .ok (.iconst 1, 1) := by decide +kernel
theorem dX3_command_208 : decode cX3_command 208 = .ok (.goto 4, 3) := by decide +kernel
theorem dX3_command_211 : decode cX3_command 211 = .ok (.iconst 0, 1) := by decide +kernel
theorem dX3_command_212 : decode cX3_command 212 = .ok (.invokestatic 167, 3) := by decide +kernel
theorem dX3_command_215 : decode cX3_command 215 = .ok (.ifCond .lt 7, 3) := by decide +kernel
theorem dX3_command_218 : decode cX3_command 218 = .ok (.iconst 1, 1) := by decide +kernel
theorem dX3_command_219 : decode cX3_command 219 = .ok (.goto 4, 3) := by decide +kernel
theorem dX3_command_222 : decode cX3_command 222 = .ok (.iconst 0, 1) := by decide +kernel
theorem dX3_command_223 : decode cX3_command 223 = .ok (.ireturn, 1) := by decide +kernel
theorem dX3_command_224 : decode cX3_command 224 = .ok (.iload_n 2, 1) := by decide +kernel
theorem dX3_command_225 : decode cX3_command 225 = .ok (.sipush 1000, 3) := by decide +kernel
theorem dX3_command_228 : decode cX3_command 228 = .ok (.irem, 1) := by decide +kernel
theorem dX3_command_229 : decode cX3_command 229 = .ok (.ifCond .ne 29, 3) := by decide +kernel
theorem dX3_command_232 : decode cX3_command 232 = .ok (.aload_n 0, 1) := by decide +kernel
theorem dX3_command_233 : decode cX3_command 233 = .ok (.getfield 16, 3) := by decide +kernel
theorem dX3_command_236 : decode cX3_command 236 = .ok (.iload_n 3, 1) := by decide +kernel
theorem dX3_command_237 : decode cX3_command 237 = .ok (.invokestatic 171, 3) := by decide +kernel
theorem dX3_command_240 : decode cX3_command 240 = .ok (.ifCond .eq 18, 3) := by decide +kernel
theorem dX3_command_243 : decode cX3_command 243 = .ok (.aload_n 0, 1) := by decide +kernel
theorem dX3_command_244 : decode cX3_command 244 = .ok (.getfield 16, 3) := by decide +kernel
theorem dX3_command_247 : decode cX3_command 247 = .ok (.iload_n 3, 1) := by decide +kernel
theorem dX3_command_248 : decode cX3_command 248 = .ok (.invokestatic 174, 3) := by decide +kernel
theorem dX3_command_251 : decode cX3_command 251 = .ok (.ifCond .lt 7, 3) := by decide +kernel
theorem dX3_command_254 : decode cX3_command 254 = .ok (.iconst 1, 1) := by decide +kernel
theorem dX3_command_255 : decode cX3_command 255 = .ok (.goto 4, 3) := by decide +kernel
theorem dX3_command_258 : decode cX3_command 258 = .ok (.iconst 0, 1) := by decide +kernel
theorem dX3_command_259 : decode cX3_command 259 = .ok (.ireturn, 1) := by decide +kernel
theorem dX3_command_260 : decode cX3_command 260 = .ok (.iload 6, 2) := by decide +kernel
theorem dX3_command_262 : decode cX3_command 262 = .ok (.ifCond .gt 12, 3) := by decide +kernel
theorem dX3_command_265 : decode cX3_command 265 = .ok (.iload_n 3, 1) := by decide +kernel
theorem dX3_command_266 : decode cX3_command 266 = .ok (.iload 5, 2) := by decide +kernel
theorem dX3_command_268 : decode cX3_command 268 = .ok (.invokestatic 207, 3) := by decide +kernel
theorem dX3_command_271 : decode cX3_command 271 = .ok (.ifCond .ne 5, 3) := by decide +kernel
theorem dX3_command_274 : decode cX3_command 274 = .ok (.iconst 0, 1) := by decide +kernel
theorem dX3_command_275 : decode cX3_command 275 = .ok (.ireturn, 1) := by decide +kernel
theorem dX3_command_276 : decode cX3_command 276 = .ok (.aload_n 0, 1) := by decide +kernel
theorem dX3_command_277 : decode cX3_command 277 = .ok (.getfield 16, 3) := by decide +kernel
theorem dX3_command_280 : decode cX3_command 280 = .ok (.bipush 7, 2) := by decide +kernel
theorem dX3_command_282 : decode cX3_command 282 = .ok (.iload_n 3, 1) := by decide +kernel
theorem dX3_command_283 : decode cX3_command 283 = .ok (.iadd, 1) := by decide +kernel
theorem dX3_command_284 : decode cX3_command 284 = .ok (.iload 5, 2) := by decide +kernel
theorem dX3_command_286 : decode cX3_command 286 = .ok (.iastore, 1) := by decide +kernel
theorem dX3_command_287 : decode cX3_command 287 = .ok (.iconst 1, 1) := by decide +kernel
theorem dX3_command_288 : decode cX3_command 288 = .ok (.ireturn, 1) := by decide +kernel
theorem dX3_command_289 : decode cX3_command 289 = .ok (.iload_n 2, 1) := by decide +kernel
theorem dX3_command_290 : decode cX3_command 290 = .ok (.bipush 100, 2) := by decide +kernel
theorem dX3_command_292 : decode cX3_command 292 = .ok (.irem, 1) := by decide +kernel
theorem dX3_command_293 : decode cX3_command 293 = .ok (.ifCond .ne 32, 3) := by decide +kernel
theorem dX3_command_296 : decode cX3_command 296 = .ok (.aload_n 0, 1) := by decide +kernel
theorem dX3_command_297 : decode cX3_command 297 = .ok (.getfield 16, 3) := by decide +kernel
theorem dX3_command_300 : decode cX3_command 300 = .ok (.iload_n 3, 1) := by decide +kernel
theorem dX3_command_301 : decode cX3_command 301 = .ok (.invokestatic 44, 3) := by decide +kernel
theorem dX3_command_304 : decode cX3_command 304 = .ok (.ifCond .eq 21, 3) := by decide +kernel
theorem dX3_command_307 : decode cX3_command 307 = .ok (.aload_n 0, 1) := by decide +kernel
theorem dX3_command_308 : decode cX3_command 308 = .ok (.getfield 16, 3) := by decide +kernel
theorem dX3_command_311 : decode cX3_command 311 = .ok (.iload_n 3, 1) := by decide +kernel
theorem dX3_command_312 : decode cX3_command 312 = .ok (.iconst 1, 1) := by decide +kernel
theorem dX3_command_313 : decode cX3_command 313 = .ok (.invokestatic 48, 3) := by decide +kernel
theorem dX3_command_316 : decode cX3_command 316 = .ok (.iload 4, 2) := by decide +kernel
theorem dX3_command_318 : decode cX3_command 318 = .ok (.if_icmp .ne 7, 3) := by decide +kernel
theorem dX3_command_321 : decode cX3_command 321 = .ok (.iconst 1, 1) := by decide +kernel
theorem dX3_command_322 : decode cX3_command 322 = .ok (.goto 4, 3) := by decide +kernel
theorem dX3_command_325 : decode cX3_command 325 = .ok (.iconst 0, 1) := by decide +kernel
theorem dX3_command_326 : decode cX3_command 326 = .ok (.ireturn, 1) := by decide +kernel
theorem dX3_command_327 : decode cX3_command 327 = .ok (.iload_n 2, 1) := by decide +kernel
theorem dX3_command_328 : decode cX3_command 328 = .ok (.sipush 1000, 3) := by decide +kernel
theorem dX3_command_331 : decode cX3_command 331 = .ok (.irem, 1) := by decide +kernel
theorem dX3_command_332 : decode cX3_command 332 = .ok (.bipush 10, 2) := by decide +kernel
theorem dX3_command_334 : decode cX3_command 334 = .ok (.if_icmp .ge 32, 3) := by decide +kernel
theorem dX3_command_337 : decode cX3_command 337 = .ok (.aload_n 0, 1) := by decide +kernel
theorem dX3_command_338 : decode cX3_command 338 = .ok (.getfield 16, 3) := by decide +kernel
theorem dX3_command_341 : decode cX3_command 341 = .ok (.iload_n 3, 1) := by decide +kernel
theorem dX3_command_342 : decode cX3_command 342 = .ok (.invokestatic 44, 3) := by decide +kernel
theorem dX3_command_345 : decode cX3_command 345 = .ok (.ifCond .eq 21, 3) := by decide +kernel
theorem dX3_command_348 : decode cX3_command 348 = .ok (.aload_n 0, 1) := by decide +kernel
theorem dX3_command_349 : decode cX3_command 349 = .ok (.getfield 16, 3) := by decide +kernel
theorem dX3_command_352 : decode cX3_command 352 = .ok (.iload_n 3, 1) := by decide +kernel
theorem dX3_command_353 : decode cX3_command 353 = .ok (.iconst 0, 1) := by decide +kernel
theorem dX3_command_354 : decode cX3_command 354 = .ok (.invokestatic 48, 3) := by decide +kernel
theorem dX3_command_357 : decode cX3_command 357 = .ok (.iload 6, 2) := by decide +kernel
theorem dX3_command_359 : decode cX3_command 359 = .ok (.if_icmp .gt 7, 3) := by decide +kernel
theorem dX3_command_362 : decode cX3_command 362 = .ok (.iconst 1, 1) := by decide +kernel
theorem dX3_command_363 : decode cX3_command 363 = .ok (.goto 4, 3) := by decide +kernel
theorem dX3_command_366 : decode cX3_command 366 = .ok (.iconst 0, 1) := by decide +kernel
theorem dX3_command_367 : decode cX3_command 367 = .ok (.ireturn, 1) := by decide +kernel
theorem dX3_command_368 : decode cX3_command 368 = .ok (.iload_n 2, 1) := by decide +kernel
theorem dX3_command_369 : decode cX3_command 369 = .ok (.bipush 100, 2) := by decide +kernel
theorem dX3_command_371 : decode cX3_command 371 = .ok (.if_icmp .ge 17, 3) := by decide +kernel
theorem dX3_command_374 : decode cX3_command 374 = .ok (.aload_n 0, 1) := by decide +kernel
theorem dX3_command_375 : decode cX3_command 375 = .ok (.getfield 16, 3) := by decide +kernel
theorem dX3_command_378 : decode cX3_command 378 = .ok (.iconst 4, 1) := by decide +kernel
theorem dX3_command_379 : decode cX3_command 379 = .ok (.iaload, 1) := by decide +kernel
theorem dX3_command_380 : decode cX3_command 380 = .ok (.iload_n 2, 1) := by decide +kernel
theorem dX3_command_381 : decode cX3_command 381 = .ok (.if_icmp .gt 7, 3) := by decide +kernel
theorem dX3_command_384 : decode cX3_command 384 = .ok (.iconst 1, 1) := by decide +kernel
theorem dX3_command_385 : decode cX3_command 385 = .ok (.goto 4, 3) := by decide +kernel
theorem dX3_command_388 : decode cX3_command 388 = .ok (.iconst 0, 1) := by decide +kernel
theorem dX3_command_389 : decode cX3_command 389 = .ok (.ireturn, 1) := by decide +kernel
theorem dX3_command_390 : decode cX3_command 390 = .ok (.iload_n 2, 1) := by decide +kernel
theorem dX3_command_391 : decode cX3_command 391 = .ok (.sipush 1000, 3) := by decide +kernel
theorem dX3_command_394 : decode cX3_command 394 = .ok (.irem, 1) := by decide +kernel
theorem dX3_command_395 : decode cX3_command 395 = .ok (.bipush 10, 2) := by decide +kernel
theorem dX3_command_397 : decode cX3_command 397 = .ok (.if_icmp .ge 31, 3) := by decide +kernel
theorem dX3_command_400 : decode cX3_command 400 = .ok (.aload_n 0, 1) := by decide +kernel
theorem dX3_command_401 : decode cX3_command 401 = .ok (.getfield 16, 3) := by decide +kernel
theorem dX3_command_404 : decode cX3_command 404 = .ok (.iload_n 3, 1) := by decide +kernel
theorem dX3_command_405 : decode cX3_command 405 = .ok (.invokestatic 44, 3) := by decide +kernel
theorem dX3_command_408 : decode cX3_command 408 = .ok (.ifCond .eq 20, 3) := by decide +kernel
theorem dX3_command_411 : decode cX3_command 411 = .ok (.aload_n 0, 1) := by decide +kernel
theorem dX3_command_412 : decode cX3_command 412 = .ok (.getfield 16, 3) := by decide +kernel
theorem dX3_command_415 : decode cX3_command 415 = .ok (.iload_n 3, 1) := by decide +kernel
theorem dX3_command_416 : decode cX3_command 416 = .ok (.invokestatic 201, 3) := by decide +kernel
theorem dX3_command_419 : decode cX3_command 419 = .ok (.iload 6, 2) := by decide +kernel
theorem dX3_command_421 : decode cX3_command 421 = .ok (.if_icmp .ne 7, 3) := by decide +kernel
theorem dX3_command_424 : decode cX3_command 424 = .ok (.iconst 1, 1) := by decide +kernel
theorem dX3_command_425 : decode cX3_command 425 = .ok (.goto 4, 3) := by decide +kernel
theorem dX3_command_428 : decode cX3_command 428 = .ok (.iconst 0, 1) := by decide +kernel
theorem dX3_command_429 : decode cX3_command 429 = .ok (.ireturn, 1) := by decide +kernel
theorem dX3_command_430 : decode cX3_command 430 = .ok (.iconst 0, 1) := by decide +kernel
theorem dX3_command_431 : decode cX3_command 431 = .ok (.ireturn, 1) := by decide +kernel
theorem dX3_runScript_0 : decode cX3_runScript 0 = .ok (.lconst 1, 1) := by decide +kernel
theorem dX3_runScript_1 : decode cX3_runScript 1 = .ok (.lstore 4, 2) := by decide +kernel
theorem dX3_runScript_3 : decode cX3_runScript 3 = .ok (.iconst 0, 1) := by decide +kernel
theorem dX3_runScript_4 : decode cX3_runScript 4 = .ok (.istore 6, 2) := by decide +kernel
theorem dX3_runScript_6 : decode cX3_runScript 6 = .ok (.iload 6, 2) := by decide +kernel
theorem dX3_runScript_8 : decode cX3_runScript 8 = .ok (.iload_n 1, 1) := by decide +kernel
theorem dX3_runScript_9 : decode cX3_runScript 9 = .ok (.if_icmp .ge 23, 3) := by decide +kernel
theorem dX3_runScript_12 : decode cX3_runScript 12 = .ok (.iload 6, 2) := by decide +kernel
theorem dX3_runScript_14 : decode cX3_runScript 14 = .ok (.iconst 3, 1) := by decide +kernel
theorem dX3_runScript_15 : decode cX3_runScript 15 = .ok (.if_icmp .ge 17, 3) := by decide +kernel
theorem dX3_runScript_18 : decode cX3_runScript 18 = .ok (.lload 4, 2) := by decide +kernel
theorem dX3_runScript_20 : decode cX3_runScript 20 = .ok (.ldc2_w 216, 3) := by decide +kernel
theorem dX3_runScript_23 : decode cX3_runScript 23 = .ok (.lmul, 1) := by decide +kernel
theorem dX3_runScript_24 : decode cX3_runScript 24 = .ok (.lstore 4, 2) := by decide +kernel
theorem dX3_runScript_26 : decode cX3_runScript 26 = .ok (.iinc 6 1, 3) := by decide +kernel
theorem dX3_runScript_29 : decode cX3_runScript 29 = .ok (.goto (-23), 3) := by decide +kernel
theorem dX3_runScript_32 : decode cX3_runScript 32 = .ok (.aload_n 0, 1) := by decide +kernel
theorem dX3_runScript_33 : decode cX3_runScript 33 = .ok (.iload_n 1, 1) := by decide +kernel
theorem dX3_runScript_34 : decode cX3_runScript 34 = .ok (.i2l, 1) := by decide +kernel
theorem dX3_runScript_35 : decode cX3_runScript 35 = .ok (.lconst 1, 1) := by decide +kernel
theorem dX3_runScript_36 : decode cX3_runScript 36 = .ok (.ldc2_w 218, 3) := by decide +kernel
theorem dX3_runScript_39 : decode cX3_runScript 39 = .ok (.invokestatic 40, 3) := by decide +kernel
theorem dX3_runScript_42 : decode cX3_runScript 42 = .ok (.ifCond .eq 19, 3) := by decide +kernel
theorem dX3_runScript_45 : decode cX3_runScript 45 = .ok (.lload_n 2, 1) := by decide +kernel
theorem dX3_runScript_46 : decode cX3_runScript 46 = .ok (.lconst 0, 1) := by decide +kernel
theorem dX3_runScript_47 : decode cX3_runScript 47 = .ok (.lload 4, 2) := by decide +kernel
theorem dX3_runScript_49 : decode cX3_runScript 49 = .ok (.lconst 1, 1) := by decide +kernel
theorem dX3_runScript_50 : decode cX3_runScript 50 = .ok (.lsub, 1) := by decide +kernel
theorem dX3_runScript_51 : decode cX3_runScript 51 = .ok (.invokestatic 40, 3) := by decide +kernel
theorem dX3_runScript_54 : decode cX3_runScript 54 = .ok (.ifCond .eq 7, 3) := by decide +kernel
theorem dX3_runScript_57 : decode cX3_runScript 57 = .ok (.iconst 0, 1) := by decide +kernel
theorem dX3_runScript_58 : decode cX3_runScript 58 = .ok (.goto 4, 3) := by decide +kernel
theorem dX3_runScript_61 : decode cX3_runScript 61 = .ok (.iconst 1, 1) := by decide +kernel
theorem dX3_runScript_62 : decode cX3_runScript 62 = .ok (.invokevirtual 130, 3) := by decide +kernel
theorem dX3_runScript_65 : decode cX3_runScript 65 = .ok (.ifCond .eq 5, 3) := by decide +kernel
theorem dX3_runScript_68 : decode cX3_runScript 68 = .ok (.iconst 0, 1) := by decide +kernel
theorem dX3_runScript_69 : decode cX3_runScript 69 = .ok (.ireturn, 1) := by decide +kernel
theorem dX3_runScript_70 : decode cX3_runScript 70 = .ok (.aload_n 0, 1) := by decide +kernel
theorem dX3_runScript_71 : decode cX3_runScript 71 = .ok (.getfield 13, 3) := by decide +kernel
theorem dX3_runScript_74 : decode cX3_runScript 74 = .ok (.iconst 0, 1) := by decide +kernel
theorem dX3_runScript_75 : decode cX3_runScript 75 = .ok (.aload_n 0, 1) := by decide +kernel
theorem dX3_runScript_76 : decode cX3_runScript 76 = .ok (.getfield 16, 3) := by decide +kernel
theorem dX3_runScript_79 : decode cX3_runScript 79 = .ok (.iconst 0, 1) := by decide +kernel
theorem dX3_runScript_80 : decode cX3_runScript 80 = .ok (.invokestatic 187, 3) := by decide +kernel
theorem dX3_runScript_83 : decode cX3_runScript 83 = .ok (.iconst 0, 1) := by decide +kernel
theorem dX3_runScript_84 : decode cX3_runScript 84 = .ok (.istore 6, 2) := by decide +kernel
theorem dX3_runScript_86 : decode cX3_runScript 86 = .ok (.iload 6, 2) := by decide +kernel
theorem dX3_runScript_88 : decode cX3_runScript 88 = .ok (.iload_n 1, 1) := by decide +kernel
theorem dX3_runScript_89 : decode cX3_runScript 89 = .ok (.if_icmp .ge 50, 3) := by decide +kernel
theorem dX3_runScript_92 : decode cX3_runScript 92 = .ok (.lload 4, 2) := by decide +kernel
theorem dX3_runScript_94 : decode cX3_runScript 94 = .ok (.ldc2_w 216, 3) := by decide +kernel
theorem dX3_runScript_97 : decode cX3_runScript 97 = .ok (.ldiv, 1) := by decide +kernel
theorem dX3_runScript_98 : decode cX3_runScript 98 = .ok (.lstore 4, 2) := by decide +kernel
theorem dX3_runScript_100 : decode cX3_runScript 100 = .ok (.lload_n 2, 1) := by decide +kernel
theorem dX3_runScript_101 : decode cX3_runScript 101 = .ok (.lload 4, 2) := by decide +kernel
theorem dX3_runScript_103 : decode cX3_runScript 103 = .ok (.ldiv, 1) := by decide +kernel
theorem dX3_runScript_104 : decode cX3_runScript 104 = .ok (.ldc2_w 216, 3) := by decide +kernel
theorem dX3_runScript_107 : decode cX3_runScript 107 = .ok (.lrem, 1) := by decide +kernel
theorem dX3_runScript_108 : decode cX3_runScript 108 = .ok (.l2i, 1) := by decide +kernel
theorem dX3_runScript_109 : decode cX3_runScript 109 = .ok (.istore 7, 2) := by decide +kernel
theorem dX3_runScript_111 : decode cX3_runScript 111 = .ok (.aload_n 0, 1) := by decide +kernel
theorem dX3_runScript_112 : decode cX3_runScript 112 = .ok (.iload 7, 2) := by decide +kernel
theorem dX3_runScript_114 : decode cX3_runScript 114 = .ok (.sipush 10000, 3) := by decide +kernel
theorem dX3_runScript_117 : decode cX3_runScript 117 = .ok (.idiv, 1) := by decide +kernel
theorem dX3_runScript_118 : decode cX3_runScript 118 = .ok (.iload 7, 2) := by decide +kernel
theorem dX3_runScript_120 : decode cX3_runScript 120 = .ok (.sipush 10000, 3) := by decide +kernel
theorem dX3_runScript_123 : decode cX3_runScript 123 = .ok (.irem, 1) := by decide +kernel
theorem dX3_runScript_124 : decode cX3_runScript 124 = .ok (.invokevirtual 220, 3) := by decide +kernel
theorem dX3_runScript_127 : decode cX3_runScript 127 = .ok (.ifCond .ne 6, 3) := by decide +kernel
theorem dX3_runScript_130 : decode cX3_runScript 130 = .ok (.iload 6, 2) := by decide +kernel
theorem dX3_runScript_132 : decode cX3_runScript 132 = .ok (.ireturn, 1) := by decide +kernel
theorem dX3_runScript_133 : decode cX3_runScript 133 = .ok (.iinc 6 1, 3) := by decide +kernel
theorem dX3_runScript_136 : decode cX3_runScript 136 = .ok (.goto (-50), 3) := by decide +kernel
theorem dX3_runScript_139 : decode cX3_runScript 139 = .ok (.iconst (-1), 1) := by decide +kernel
theorem dX3_runScript_140 : decode cX3_runScript 140 = .ok (.ireturn, 1) := by decide +kernel
theorem dX3_turn_0 : decode cX3_turn 0 = .ok (.iload_n 1, 1) := by decide +kernel
theorem dX3_turn_1 : decode cX3_turn 1 = .ok (.bipush 8, 2) := by decide +kernel
theorem dX3_turn_3 : decode cX3_turn 3 = .ok (.idiv, 1) := by decide +kernel
theorem dX3_turn_4 : decode cX3_turn 4 = .ok (.istore_n 2, 1) := by decide +kernel
theorem dX3_turn_5 : decode cX3_turn 5 = .ok (.iload_n 2, 1) := by decide +kernel
theorem dX3_turn_6 : decode cX3_turn 6 = .ok (.iconst 3, 1) := by decide +kernel
theorem dX3_turn_7 : decode cX3_turn 7 = .ok (.irem, 1) := by decide +kernel
theorem dX3_turn_8 : decode cX3_turn 8 = .ok (.istore_n 3, 1) := by decide +kernel
theorem dX3_turn_9 : decode cX3_turn 9 = .ok (.iload_n 1, 1) := by decide +kernel
theorem dX3_turn_10 : decode cX3_turn 10 = .ok (.bipush 8, 2) := by decide +kernel
theorem dX3_turn_12 : decode cX3_turn 12 = .ok (.irem, 1) := by decide +kernel
theorem dX3_turn_13 : decode cX3_turn 13 = .ok (.istore 4, 2) := by decide +kernel
theorem dX3_turn_15 : decode cX3_turn 15 = .ok (.iload 4, 2) := by decide +kernel
theorem dX3_turn_17 : decode cX3_turn 17 = .ok (.iconst 3, 1) := by decide +kernel
theorem dX3_turn_18 : decode cX3_turn 18 = .ok (.if_icmp .ge 72, 3) := by decide +kernel
theorem dX3_turn_21 : decode cX3_turn 21 = .ok (.aload_n 0, 1) := by decide +kernel
theorem dX3_turn_22 : decode cX3_turn 22 = .ok (.getfield 16, 3) := by decide +kernel
theorem dX3_turn_25 : decode cX3_turn 25 = .ok (.iload_n 3, 1) := by decide +kernel
theorem dX3_turn_26 : decode cX3_turn 26 = .ok (.iconst 2, 1) := by decide +kernel
theorem dX3_turn_27 : decode cX3_turn 27 = .ok (.iload_n 2, 1) := by decide +kernel
theorem dX3_turn_28 : decode cX3_turn 28 = .ok (.iconst 4, 1) := by decide +kernel
theorem dX3_turn_29 : decode cX3_turn 29 = .ok (.idiv, 1) := by decide +kernel
theorem dX3_turn_30 : decode cX3_turn 30 = .ok (.bipush 11, 2) := by decide +kernel
theorem dX3_turn_32 : decode cX3_turn 32 = .ok (.irem, 1) := by decide +kernel
theorem dX3_turn_33 : decode cX3_turn 33 = .ok (.iadd, 1) := by decide +kernel
theorem dX3_turn_34 : decode cX3_turn 34 = .ok (.invokestatic 160, 3) := by decide +kernel
theorem dX3_turn_37 : decode cX3_turn 37 = .ok (.ifCond .eq 139, 3) := by decide +kernel
theorem dX3_turn_40 : decode cX3_turn 40 = .ok (.aload_n 0, 1) := by decide +kernel
theorem dX3_turn_41 : decode cX3_turn 41 = .ok (.getfield 16, 3) := by decide +kernel
theorem dX3_turn_44 : decode cX3_turn 44 = .ok (.iload_n 3, 1) := by decide +kernel
theorem dX3_turn_45 : decode cX3_turn 45 = .ok (.iconst 2, 1) := by decide +kernel
theorem dX3_turn_46 : decode cX3_turn 46 = .ok (.iload_n 2, 1) := by decide +kernel
theorem dX3_turn_47 : decode cX3_turn 47 = .ok (.iconst 4, 1) := by decide +kernel
theorem dX3_turn_48 : decode cX3_turn 48 = .ok (.idiv, 1) := by decide +kernel
theorem dX3_turn_49 : decode cX3_turn 49 = .ok (.bipush 11, 2) := by decide +kernel
theorem dX3_turn_51 : decode cX3_turn 51 = .ok (.irem, 1) := by decide +kernel
theorem dX3_turn_52 : decode cX3_turn 52 = .ok (.iadd, 1) := by decide +kernel
theorem dX3_turn_53 : decode cX3_turn 53 = .ok (.iload_n 2, 1) := by decide +kernel
theorem dX3_turn_54 : decode cX3_turn 54 = .ok (.bipush 64, 2) := by decide +kernel
theorem dX3_turn_56 : decode cX3_turn 56 = .ok (.idiv, 1) := by decide +kernel
theorem dX3_turn_57 : decode cX3_turn 57 = .ok (.bipush 8, 2) := by decide +kernel
theorem dX3_turn_59 : decode cX3_turn 59 = .ok (.irem, 1) := by decide +kernel
theorem dX3_turn_60 : decode cX3_turn 60 = .ok (.ifCond .ne 7, 3) := by decide +kernel
theorem dX3_turn_63 : decode cX3_turn 63 = .ok (.iconst 1, 1) := by decide +kernel
theorem dX3_turn_64 : decode cX3_turn 64 = .ok (.goto 4, 3) := by decide +kernel
theorem dX3_turn_67 : decode cX3_turn 67 = .ok (.iconst 0, 1) := by decide +kernel
theorem dX3_turn_68 : decode cX3_turn 68 = .ok (.iload_n 2, 1) := by decide +kernel
theorem dX3_turn_69 : decode cX3_turn 69 = .ok (.sipush 512, 3) := by decide +kernel
theorem dX3_turn_72 : decode cX3_turn 72 = .ok (.idiv, 1) := by decide +kernel
theorem dX3_turn_73 : decode cX3_turn 73 = .ok (.iconst 4, 1) := by decide +kernel
theorem dX3_turn_74 : decode cX3_turn 74 = .ok (.irem, 1) := by decide +kernel
theorem dX3_turn_75 : decode cX3_turn 75 = .ok (.ifCond .ne 7, 3) := by decide +kernel
theorem dX3_turn_78 : decode cX3_turn 78 = .ok (.iconst 1, 1) := by decide +kernel
theorem dX3_turn_79 : decode cX3_turn 79 = .ok (.goto 4, 3) := by decide +kernel
theorem dX3_turn_82 : decode cX3_turn 82 = .ok (.iconst 0, 1) := by decide +kernel
theorem dX3_turn_83 : decode cX3_turn 83 = .ok (.invokestatic 163, 3) := by decide +kernel
theorem dX3_turn_86 : decode cX3_turn 86 = .ok (.pop, 1) := by decide +kernel
theorem dX3_turn_87 : decode cX3_turn 87 = .ok (.goto 89, 3) := by decide +kernel
theorem dX3_turn_90 : decode cX3_turn 90 = .ok (.iload 4, 2) := by decide +kernel
theorem dX3_turn_92 : decode cX3_turn 92 = .ok (.iconst 3, 1) := by decide +kernel
theorem dX3_turn_93 : decode cX3_turn 93 = .ok (.if_icmp .ne 39, 3) := by decide +kernel
theorem dX3_turn_96 : decode cX3_turn 96 = .ok (.aload_n 0, 1) := by decide +kernel
theorem dX3_turn_97 : decode cX3_turn 97 = .ok (.getfield 16, 3) := by decide +kernel
theorem dX3_turn_100 : decode cX3_turn 100 = .ok (.iload_n 3, 1) := by decide +kernel
theorem dX3_turn_101 : decode cX3_turn 101 = .ok (.invokestatic 44, 3) := by decide +kernel
theorem dX3_turn_104 : decode cX3_turn 104 = .ok (.ifCond .eq 72, 3) := by decide +kernel
theorem dX3_turn_107 : decode cX3_turn 107 = .ok (.aload_n 0, 1) := by decide +kernel
theorem dX3_turn_108 : decode cX3_turn 108 = .ok (.getfield 16, 3) := by decide +kernel
theorem dX3_turn_111 : decode cX3_turn 111 = .ok (.iload_n 3, 1) := by decide +kernel
theorem dX3_turn_112 : decode cX3_turn 112 = .ok (.iload_n 2, 1) := by decide +kernel
theorem dX3_turn_113 : decode cX3_turn 113 = .ok (.iconst 4, 1) := by decide +kernel
theorem dX3_turn_114 : decode cX3_turn 114 = .ok (.idiv, 1) := by decide +kernel
theorem dX3_turn_115 : decode cX3_turn 115 = .ok (.iconst 4, 1) := by decide +kernel
theorem dX3_turn_116 : decode cX3_turn 116 = .ok (.irem, 1) := by decide +kernel
theorem dX3_turn_117 : decode cX3_turn 117 = .ok (.ifCond .ne 7, 3) := by decide +kernel
theorem dX3_turn_120 : decode cX3_turn 120 = .ok (.iconst 1, 1) := by decide +kernel
theorem dX3_turn_121 : decode cX3_turn 121 = .ok (.goto 4, 3) := by decide +kernel
theorem dX3_turn_124 : decode cX3_turn 124 = .ok (.iconst 0, 1) := by decide +kernel
theorem dX3_turn_125 : decode cX3_turn 125 = .ok (.invokestatic 167, 3) := by decide +kernel
theorem dX3_turn_128 : decode cX3_turn 128 = .ok (.pop, 1) := by decide +kernel
theorem dX3_turn_129 : decode cX3_turn 129 = .ok (.goto 47, 3) := by decide +kernel
theorem dX3_turn_132 : decode cX3_turn 132 = .ok (.iload 4, 2) := by decide +kernel
theorem dX3_turn_134 : decode cX3_turn 134 = .ok (.iconst 4, 1) := by decide +kernel
theorem dX3_turn_135 : decode cX3_turn 135 = .ok (.if_icmp .ne 26, 3) := by decide +kernel
theorem dX3_turn_138 : decode cX3_turn 138 = .ok (.aload_n 0, 1) := by decide +kernel
theorem dX3_turn_139 : decode cX3_turn 139 = .ok (.getfield 16, 3) := by decide +kernel
theorem dX3_turn_142 : decode cX3_turn 142 = .ok (.iload_n 3, 1) := by decide +kernel
theorem dX3_turn_143 : decode cX3_turn 143 = .ok (.invokestatic 171, 3) := by decide +kernel
theorem dX3_turn_146 : decode cX3_turn 146 = .ok (.ifCond .eq 30, 3) := by decide +kernel
theorem dX3_turn_149 : decode cX3_turn 149 = .ok (.aload_n 0, 1) := by decide +kernel
theorem dX3_turn_150 : decode cX3_turn 150 = .ok (.getfield 16, 3) := by decide +kernel
theorem dX3_turn_153 : decode cX3_turn 153 = .ok (.iload_n 3, 1) := by decide +kernel
theorem dX3_turn_154 : decode cX3_turn 154 = .ok (.invokestatic 174, 3) := by decide +kernel
theorem dX3_turn_157 : decode cX3_turn 157 = .ok (.pop, 1) := by decide +kernel
theorem dX3_turn_158 : decode cX3_turn 158 = .ok (.goto 18, 3) := by decide +kernel
theorem dX3_turn_161 : decode cX3_turn 161 = .ok (.aload_n 0, 1) := by decide +kernel
theorem dX3_turn_162 : decode cX3_turn 162 = .ok (.aload_n 0, 1) := by decide +kernel
theorem dX3_turn_163 : decode cX3_turn 163 = .ok (.getfield 16, 3) := by decide +kernel
theorem dX3_turn_166 : decode cX3_turn 166 = .ok (.iconst 1, 1) := by decide +kernel
theorem dX3_turn_167 : decode cX3_turn 167 = .ok (.iload_n 2, 1) := by decide +kernel
theorem dX3_turn_168 : decode cX3_turn 168 = .ok (.bipush 20, 2) := by decide +kernel
theorem dX3_turn_170 : decode cX3_turn 170 = .ok (.irem, 1) := by decide +kernel
theorem dX3_turn_171 : decode cX3_turn 171 = .ok (.iadd, 1) := by decide +kernel
theorem dX3_turn_172 : decode cX3_turn 172 = .ok (.invokevirtual 177, 3) := by decide +kernel
theorem dX3_turn_175 : decode cX3_turn 175 = .ok (.pop, 1) := by decide +kernel
theorem dX3_turn_176 : decode cX3_turn 176 = .ok (.return_, 1) := by decide +kernel
theorem dX3_simulate_0 : decode cX3_simulate 0 = .ok (.aload_n 0, 1) := by decide +kernel
theorem dX3_simulate_1 : decode cX3_simulate 1 = .ok (.iload_n 3, 1) := by decide +kernel
theorem dX3_simulate_2 : decode cX3_simulate 2 = .ok (.i2l, 1) := by decide +kernel
theorem dX3_simulate_3 : decode cX3_simulate 3 = .ok (.lconst 1, 1) := by decide +kernel
theorem dX3_simulate_4 : decode cX3_simulate 4 = .ok (.ldc2_w 123, 3) := by decide +kernel
theorem dX3_simulate_7 : decode cX3_simulate 7 = .ok (.invokestatic 40, 3) := by decide +kernel
theorem dX3_simulate_10 : decode cX3_simulate 10 = .ok (.ifCond .eq 7, 3) := by decide +kernel
theorem dX3_simulate_13 : decode cX3_simulate 13 = .ok (.iconst 0, 1) := by decide +kernel
theorem dX3_simulate_14 : decode cX3_simulate 14 = .ok (.goto 4, 3) := by decide +kernel
theorem dX3_simulate_17 : decode cX3_simulate 17 = .ok (.iconst 1, 1) := by decide +kernel
theorem dX3_simulate_18 : decode cX3_simulate 18 = .ok (.invokevirtual 130, 3) := by decide +kernel
theorem dX3_simulate_21 : decode cX3_simulate 21 = .ok (.ifCond .eq 5, 3) := by decide +kernel
theorem dX3_simulate_24 : decode cX3_simulate 24 = .ok (.iconst 0, 1) := by decide +kernel
theorem dX3_simulate_25 : decode cX3_simulate 25 = .ok (.ireturn, 1) := by decide +kernel
theorem dX3_simulate_26 : decode cX3_simulate 26 = .ok (.aload_n 0, 1) := by decide +kernel
theorem dX3_simulate_27 : decode cX3_simulate 27 = .ok (.getfield 13, 3) := by decide +kernel
theorem dX3_simulate_30 : decode cX3_simulate 30 = .ok (.iconst 0, 1) := by decide +kernel
theorem dX3_simulate_31 : decode cX3_simulate 31 = .ok (.aload_n 0, 1) := by decide +kernel
theorem dX3_simulate_32 : decode cX3_simulate 32 = .ok (.getfield 16, 3) := by decide +kernel
theorem dX3_simulate_35 : decode cX3_simulate 35 = .ok (.iconst 0, 1) := by decide +kernel
theorem dX3_simulate_36 : decode cX3_simulate 36 = .ok (.invokestatic 187, 3) := by decide +kernel
theorem dX3_simulate_39 : decode cX3_simulate 39 = .ok (.lload_n 1, 1) := by decide +kernel
theorem dX3_simulate_40 : decode cX3_simulate 40 = .ok (.lstore 4, 2) := by decide +kernel
theorem dX3_simulate_42 : decode cX3_simulate 42 = .ok (.iconst 0, 1) := by decide +kernel
theorem dX3_simulate_43 : decode cX3_simulate 43 = .ok (.istore 6, 2) := by decide +kernel
theorem dX3_simulate_45 : decode cX3_simulate 45 = .ok (.iload 6, 2) := by decide +kernel
theorem dX3_simulate_47 : decode cX3_simulate 47 = .ok (.iload_n 3, 1) := by decide +kernel
theorem dX3_simulate_48 : decode cX3_simulate 48 = .ok (.if_icmp .ge 31, 3) := by decide +kernel
theorem dX3_simulate_51 : decode cX3_simulate 51 = .ok (.lload 4, 2) := by decide +kernel
theorem dX3_simulate_53 : decode cX3_simulate 53 = .ok (.ldc2_w 223, 3) := by decide +kernel
theorem dX3_simulate_56 : decode cX3_simulate 56 = .ok (.lmul, 1) := by decide +kernel
theorem dX3_simulate_57 : decode cX3_simulate 57 = .ok (.ldc2_w 225, 3) := by decide +kernel
theorem dX3_simulate_60 : decode cX3_simulate 60 = .ok (.ladd, 1) := by decide +kernel
theorem dX3_simulate_61 : decode cX3_simulate 61 = .ok (.lstore 4, 2) := by decide +kernel
theorem dX3_simulate_63 : decode cX3_simulate 63 = .ok (.aload_n 0, 1) := by decide +kernel
theorem dX3_simulate_64 : decode cX3_simulate 64 = .ok (.lload 4, 2) := by decide +kernel
theorem dX3_simulate_66 : decode cX3_simulate 66 = .ok (.bipush 33, 2) := by decide +kernel
theorem dX3_simulate_68 : decode cX3_simulate 68 = .ok (.lushr, 1) := by decide +kernel
theorem dX3_simulate_69 : decode cX3_simulate 69 = .ok (.l2i, 1) := by decide +kernel
theorem dX3_simulate_70 : decode cX3_simulate 70 = .ok (.invokevirtual 227, 3) := by decide +kernel
theorem dX3_simulate_73 : decode cX3_simulate 73 = .ok (.iinc 6 1, 3) := by decide +kernel
theorem dX3_simulate_76 : decode cX3_simulate 76 = .ok (.goto (-31), 3) := by decide +kernel
theorem dX3_simulate_79 : decode cX3_simulate 79 = .ok (.aload_n 0, 1) := by decide +kernel
theorem dX3_simulate_80 : decode cX3_simulate 80 = .ok (.getfield 16, 3) := by decide +kernel
theorem dX3_simulate_83 : decode cX3_simulate 83 = .ok (.iconst 2, 1) := by decide +kernel
theorem dX3_simulate_84 : decode cX3_simulate 84 = .ok (.iaload, 1) := by decide +kernel
theorem dX3_simulate_85 : decode cX3_simulate 85 = .ok (.aload_n 0, 1) := by decide +kernel
theorem dX3_simulate_86 : decode cX3_simulate 86 = .ok (.getfield 13, 3) := by decide +kernel
theorem dX3_simulate_89 : decode cX3_simulate 89 = .ok (.iconst 2, 1) := by decide +kernel
theorem dX3_simulate_90 : decode cX3_simulate 90 = .ok (.iaload, 1) := by decide +kernel
theorem dX3_simulate_91 : decode cX3_simulate 91 = .ok (.isub, 1) := by decide +kernel
theorem dX3_simulate_92 : decode cX3_simulate 92 = .ok (.istore 6, 2) := by decide +kernel
theorem dX3_simulate_94 : decode cX3_simulate 94 = .ok (.sipush 10000, 3) := by decide +kernel
theorem dX3_simulate_97 : decode cX3_simulate 97 = .ok (.aload_n 0, 1) := by decide +kernel
theorem dX3_simulate_98 : decode cX3_simulate 98 = .ok (.getfield 16, 3) := by decide +kernel
theorem dX3_simulate_101 : decode cX3_simulate 101 = .ok (.iconst 5, 1) := by decide +kernel
theorem dX3_simulate_102 : decode cX3_simulate 102 = .ok (.iaload, 1) := by decide +kernel
theorem dX3_simulate_103 : decode cX3_simulate 103 = .ok (.aload_n 0, 1) := by decide +kernel
theorem dX3_simulate_104 : decode cX3_simulate 104 = .ok (.getfield 13, 3) := by decide +kernel
theorem dX3_simulate_107 : decode cX3_simulate 107 = .ok (.iconst 5, 1) := by decide +kernel
theorem dX3_simulate_108 : decode cX3_simulate 108 = .ok (.iaload, 1) := by decide +kernel
theorem dX3_simulate_109 : decode cX3_simulate 109 = .ok (.isub, 1) := by decide +kernel
theorem dX3_simulate_110 : decode cX3_simulate 110 = .ok (.imul, 1) := by decide +kernel
theorem dX3_simulate_111 : decode cX3_simulate 111 = .ok (.bipush 100, 2) := by decide +kernel
theorem dX3_simulate_113 : decode cX3_simulate 113 = .ok (.aload_n 0, 1) := by decide +kernel
theorem dX3_simulate_114 : decode cX3_simulate 114 = .ok (.getfield 16, 3) := by decide +kernel
theorem dX3_simulate_117 : decode cX3_simulate 117 = .ok (.iconst 4, 1) := by decide +kernel
theorem dX3_simulate_118 : decode cX3_simulate 118 = .ok (.iaload, 1) := by decide +kernel
theorem dX3_simulate_119 : decode cX3_simulate 119 = .ok (.aload_n 0, 1) := by decide +kernel
theorem dX3_simulate_120 : decode cX3_simulate 120 = .ok (.getfield 13, 3) := by decide +kernel
theorem dX3_simulate_123 : decode cX3_simulate 123 = .ok (.iconst 4, 1) := by decide +kernel
theorem dX3_simulate_124 : decode cX3_simulate 124 = .ok (.iaload, 1) := by decide +kernel
theorem dX3_simulate_125 : decode cX3_simulate 125 = .ok (.isub, 1) := by decide +kernel
theorem dX3_simulate_126 : decode cX3_simulate 126 = .ok (.imul, 1) := by decide +kernel
theorem dX3_simulate_127 : decode cX3_simulate 127 = .ok (.iadd, 1) := by decide +kernel
theorem dX3_simulate_128 : decode cX3_simulate 128 = .ok (.iload 6, 2) := by decide +kernel
theorem dX3_simulate_130 : decode cX3_simulate 130 = .ok (.bipush 99, 2) := by decide +kernel
theorem dX3_simulate_132 : decode cX3_simulate 132 = .ok (.if_icmp .le 8, 3) := by decide +kernel
theorem dX3_simulate_135 : decode cX3_simulate 135 = .ok (.bipush 99, 2) := by decide +kernel
theorem dX3_simulate_137 : decode cX3_simulate 137 = .ok (.goto 5, 3) := by decide +kernel
theorem dX3_simulate_140 : decode cX3_simulate 140 = .ok (.iload 6, 2) := by decide +kernel
theorem dX3_simulate_142 : decode cX3_simulate 142 = .ok (.iadd, 1) := by decide +kernel
theorem dX3_simulate_143 : decode cX3_simulate 143 = .ok (.ireturn, 1) := by decide +kernel
theorem dX3_save_0 : decode cX3_save 0 = .ok (.aload_n 0, 1) := by decide +kernel
theorem dX3_save_1 : decode cX3_save 1 = .ok (.iload_n 1, 1) := by decide +kernel
theorem dX3_save_2 : decode cX3_save 2 = .ok (.i2l, 1) := by decide +kernel
theorem dX3_save_3 : decode cX3_save 3 = .ok (.lconst 0, 1) := by decide +kernel
theorem dX3_save_4 : decode cX3_save 4 = .ok (.lconst 1, 1) := by decide +kernel
theorem dX3_save_5 : decode cX3_save 5 = .ok (.invokestatic 40, 3) := by decide +kernel
theorem dX3_save_8 : decode cX3_save 8 = .ok (.ifCond .eq 7, 3) := by decide +kernel
theorem dX3_save_11 : decode cX3_save 11 = .ok (.iconst 0, 1) := by decide +kernel
theorem dX3_save_12 : decode cX3_save 12 = .ok (.goto 4, 3) := by decide +kernel
theorem dX3_save_15 : decode cX3_save 15 = .ok (.iconst 1, 1) := by decide +kernel
theorem dX3_save_16 : decode cX3_save 16 = .ok (.invokevirtual 130, 3) := by decide +kernel
theorem dX3_save_19 : decode cX3_save 19 = .ok (.ifCond .eq 5, 3) := by decide +kernel
theorem dX3_save_22 : decode cX3_save 22 = .ok (.iconst 0, 1) := by decide +kernel
theorem dX3_save_23 : decode cX3_save 23 = .ok (.ireturn, 1) := by decide +kernel
theorem dX3_save_24 : decode cX3_save 24 = .ok (.aload_n 0, 1) := by decide +kernel
theorem dX3_save_25 : decode cX3_save 25 = .ok (.getfield 13, 3) := by decide +kernel
theorem dX3_save_28 : decode cX3_save 28 = .ok (.iconst 0, 1) := by decide +kernel
theorem dX3_save_29 : decode cX3_save 29 = .ok (.aload_n 0, 1) := by decide +kernel
theorem dX3_save_30 : decode cX3_save 30 = .ok (.getfield 22, 3) := by decide +kernel
theorem dX3_save_33 : decode cX3_save 33 = .ok (.bipush 121, 2) := by decide +kernel
theorem dX3_save_35 : decode cX3_save 35 = .ok (.iload_n 1, 1) := by decide +kernel
theorem dX3_save_36 : decode cX3_save 36 = .ok (.imul, 1) := by decide +kernel
theorem dX3_save_37 : decode cX3_save 37 = .ok (.invokestatic 187, 3) := by decide +kernel
theorem dX3_save_40 : decode cX3_save 40 = .ok (.aload_n 0, 1) := by decide +kernel
theorem dX3_save_41 : decode cX3_save 41 = .ok (.getfield 25, 3) := by decide +kernel
theorem dX3_save_44 : decode cX3_save 44 = .ok (.iload_n 1, 1) := by decide +kernel
theorem dX3_save_45 : decode cX3_save 45 = .ok (.iconst 1, 1) := by decide +kernel
theorem dX3_save_46 : decode cX3_save 46 = .ok (.bastore, 1) := by decide +kernel
theorem dX3_save_47 : decode cX3_save 47 = .ok (.aload_n 0, 1) := by decide +kernel
theorem dX3_save_48 : decode cX3_save 48 = .ok (.getfield 13, 3) := by decide +kernel
theorem dX3_save_51 : decode cX3_save 51 = .ok (.iconst 1, 1) := by decide +kernel
theorem dX3_save_52 : decode cX3_save 52 = .ok (.iaload, 1) := by decide +kernel
theorem dX3_save_53 : decode cX3_save 53 = .ok (.ireturn, 1) := by decide +kernel
theorem dX3_restore_0 : decode cX3_restore 0 = .ok (.aload_n 0, 1) := by decide +kernel
theorem dX3_restore_1 : decode cX3_restore 1 = .ok (.iload_n 1, 1) := by decide +kernel
theorem dX3_restore_2 : decode cX3_restore 2 = .ok (.i2l, 1) := by decide +kernel
theorem dX3_restore_3 : decode cX3_restore 3 = .ok (.lconst 0, 1) := by decide +kernel
theorem dX3_restore_4 : decode cX3_restore 4 = .ok (.lconst 1, 1) := by decide +kernel
theorem dX3_restore_5 : decode cX3_restore 5 = .ok (.invokestatic 40, 3) := by decide +kernel
theorem dX3_restore_8 : decode cX3_restore 8 = .ok (.ifCond .ne 7, 3) := by decide +kernel
theorem dX3_restore_11 : decode cX3_restore 11 = .ok (.iconst 1, 1) := by decide +kernel
theorem dX3_restore_12 : decode cX3_restore 12 = .ok (.goto 17, 3) := by decide +kernel
theorem dX3_restore_15 : decode cX3_restore 15 = .ok (.aload_n 0, 1) := by decide +kernel
theorem dX3_restore_16 : decode cX3_restore 16 = .ok (.getfield 25, 3) := by decide +kernel
theorem dX3_restore_19 : decode cX3_restore 19 = .ok (.iload_n 1, 1) := by decide +kernel
theorem dX3_restore_20 : decode cX3_restore 20 = .ok (.baload, 1) := by decide +kernel
theorem dX3_restore_21 : decode cX3_restore 21 = .ok (.ifCond .ne 7, 3) := by decide +kernel
theorem dX3_restore_24 : decode cX3_restore 24 = .ok (.iconst 2, 1) := by decide +kernel
theorem dX3_restore_25 : decode cX3_restore 25 = .ok (.goto 4, 3) := by decide +kernel
theorem dX3_restore_28 : decode cX3_restore 28 = .ok (.iconst 0, 1) := by decide +kernel
theorem dX3_restore_29 : decode cX3_restore 29 = .ok (.invokevirtual 130, 3) := by decide +kernel
theorem dX3_restore_32 : decode cX3_restore 32 = .ok (.ifCond .eq 5, 3) := by decide +kernel
theorem dX3_restore_35 : decode cX3_restore 35 = .ok (.iconst 0, 1) := by decide +kernel
theorem dX3_restore_36 : decode cX3_restore 36 = .ok (.ireturn, 1) := by decide +kernel
theorem dX3_restore_37 : decode cX3_restore 37 = .ok (.aload_n 0, 1) := by decide +kernel
theorem dX3_restore_38 : decode cX3_restore 38 = .ok (.getfield 22, 3) := by decide +kernel
theorem dX3_restore_41 : decode cX3_restore 41 = .ok (.bipush 121, 2) := by decide +kernel
theorem dX3_restore_43 : decode cX3_restore 43 = .ok (.iload_n 1, 1) := by decide +kernel
theorem dX3_restore_44 : decode cX3_restore 44 = .ok (.imul, 1) := by decide +kernel
theorem dX3_restore_45 : decode cX3_restore 45 = .ok (.aload_n 0, 1) := by decide +kernel
theorem dX3_restore_46 : decode cX3_restore 46 = .ok (.getfield 13, 3) := by decide +kernel
theorem dX3_restore_49 : decode cX3_restore 49 = .ok (.iconst 0, 1) := by decide +kernel
theorem dX3_restore_50 : decode cX3_restore 50 = .ok (.invokestatic 187, 3) := by decide +kernel
theorem dX3_restore_53 : decode cX3_restore 53 = .ok (.aload_n 0, 1) := by decide +kernel
theorem dX3_restore_54 : decode cX3_restore 54 = .ok (.iconst 0, 1) := by decide +kernel
theorem dX3_restore_55 : decode cX3_restore 55 = .ok (.putfield 191, 3) := by decide +kernel
theorem dX3_restore_58 : decode cX3_restore 58 = .ok (.aload_n 0, 1) := by decide +kernel
theorem dX3_restore_59 : decode cX3_restore 59 = .ok (.getfield 13, 3) := by decide +kernel
theorem dX3_restore_62 : decode cX3_restore 62 = .ok (.iconst 1, 1) := by decide +kernel
theorem dX3_restore_63 : decode cX3_restore 63 = .ok (.iaload, 1) := by decide +kernel
theorem dX3_restore_64 : decode cX3_restore 64 = .ok (.ireturn, 1) := by decide +kernel
theorem dL_append_0 : decode cL_append 0 = .ok (.aload_n 2, 1) := by decide +kernel
theorem dL_append_1 : decode cL_append 1 = .ok (.iconst 0, 1) := by decide +kernel
theorem dL_append_2 : decode cL_append 2 = .ok (.aload_n 0, 1) := by decide +kernel
theorem dL_append_3 : decode cL_append 3 = .ok (.iload_n 1, 1) := by decide +kernel
theorem dL_append_4 : decode cL_append 4 = .ok (.invokevirtual 7, 3) := by decide +kernel
theorem dL_append_7 : decode cL_append 7 = .ok (.i2l, 1) := by decide +kernel
theorem dL_append_8 : decode cL_append 8 = .ok (.lastore, 1) := by decide +kernel
theorem dL_append_9 : decode cL_append 9 = .ok (.goto 9, 3) := by decide +kernel
theorem dL_append_12 : decode cL_append 12 = .ok (.astore_n 3, 1) := by decide +kernel
theorem dL_append_13 : decode cL_append 13 = .ok (.iconst 1, 1) := by decide +kernel
theorem dL_append_14 : decode cL_append 14 = .ok (.ireturn, 1) := by decide +kernel
theorem dL_append_15 : decode cL_append 15 = .ok (.astore_n 3, 1) := by decide +kernel
theorem dL_append_16 : decode cL_append 16 = .ok (.iconst 2, 1) := by decide +kernel
theorem dL_append_17 : decode cL_append 17 = .ok (.ireturn, 1) := by decide +kernel
theorem dL_append_18 : decode cL_append 18 = .ok (.iconst 0, 1) := by decide +kernel
theorem dL_append_19 : decode cL_append 19 = .ok (.ireturn, 1) := by decide +kernel
theorem dL_load_0 : decode cL_load 0 = .ok (.aload_n 1, 1) := by decide +kernel
theorem dL_load_1 : decode cL_load 1 = .ok (.iconst 0, 1) := by decide +kernel
theorem dL_load_2 : decode cL_load 2 = .ok (.aload_n 0, 1) := by decide +kernel
theorem dL_load_3 : decode cL_load 3 = .ok (.invokevirtual 17, 3) := by decide +kernel
theorem dL_load_6 : decode cL_load 6 = .ok (.i2l, 1) := by decide +kernel
theorem dL_load_7 : decode cL_load 7 = .ok (.lastore, 1) := by decide +kernel
theorem dL_load_8 : decode cL_load 8 = .ok (.goto 6, 3) := by decide +kernel
theorem dL_load_11 : decode cL_load 11 = .ok (.astore_n 2, 1) := by decide +kernel
theorem dL_load_12 : decode cL_load 12 = .ok (.iconst 1, 1) := by decide +kernel
theorem dL_load_13 : decode cL_load 13 = .ok (.ireturn, 1) := by decide +kernel
theorem dL_load_14 : decode cL_load 14 = .ok (.iconst 0, 1) := by decide +kernel
theorem dL_load_15 : decode cL_load 15 = .ok (.ireturn, 1) := by decide +kernel
theorem dL_about_0 : decode cL_about 0 = .ok (.aload_n 2, 1) := by decide +kernel
theorem dL_about_1 : decode cL_about 1 = .ok (.iconst 0, 1) := by decide +kernel
theorem dL_about_2 : decode cL_about 2 = .ok (.aload_n 0, 1) := by decide +kernel
theorem dL_about_3 : decode cL_about 3 = .ok (.iload_n 1, 1) := by decide +kernel
theorem dL_about_4 : decode cL_about 4 = .ok (.invokevirtual 21, 3) := by decide +kernel
theorem dL_about_7 : decode cL_about 7 = .ok (.i2l, 1) := by decide +kernel
theorem dL_about_8 : decode cL_about 8 = .ok (.lastore, 1) := by decide +kernel
theorem dL_about_9 : decode cL_about 9 = .ok (.goto 6, 3) := by decide +kernel
theorem dL_about_12 : decode cL_about 12 = .ok (.astore_n 3, 1) := by decide +kernel
theorem dL_about_13 : decode cL_about 13 = .ok (.iconst 1, 1) := by decide +kernel
theorem dL_about_14 : decode cL_about 14 = .ok (.ireturn, 1) := by decide +kernel
theorem dL_about_15 : decode cL_about 15 = .ok (.iconst 0, 1) := by decide +kernel
theorem dL_about_16 : decode cL_about 16 = .ok (.ireturn, 1) := by decide +kernel
theorem dL_laneOf_0 : decode cL_laneOf 0 = .ok (.aload_n 3, 1) := by decide +kernel
theorem dL_laneOf_1 : decode cL_laneOf 1 = .ok (.iconst 0, 1) := by decide +kernel
theorem dL_laneOf_2 : decode cL_laneOf 2 = .ok (.aload_n 0, 1) := by decide +kernel
theorem dL_laneOf_3 : decode cL_laneOf 3 = .ok (.iload_n 1, 1) := by decide +kernel
theorem dL_laneOf_4 : decode cL_laneOf 4 = .ok (.iload_n 2, 1) := by decide +kernel
theorem dL_laneOf_5 : decode cL_laneOf 5 = .ok (.invokevirtual 24, 3) := by decide +kernel
theorem dL_laneOf_8 : decode cL_laneOf 8 = .ok (.i2l, 1) := by decide +kernel
theorem dL_laneOf_9 : decode cL_laneOf 9 = .ok (.lastore, 1) := by decide +kernel
theorem dL_laneOf_10 : decode cL_laneOf 10 = .ok (.goto 11, 3) := by decide +kernel
theorem dL_laneOf_13 : decode cL_laneOf 13 = .ok (.astore 4, 2) := by decide +kernel
theorem dL_laneOf_15 : decode cL_laneOf 15 = .ok (.iconst 1, 1) := by decide +kernel
theorem dL_laneOf_16 : decode cL_laneOf 16 = .ok (.ireturn, 1) := by decide +kernel
theorem dL_laneOf_17 : decode cL_laneOf 17 = .ok (.astore 4, 2) := by decide +kernel
theorem dL_laneOf_19 : decode cL_laneOf 19 = .ok (.iconst 2, 1) := by decide +kernel
theorem dL_laneOf_20 : decode cL_laneOf 20 = .ok (.ireturn, 1) := by decide +kernel
theorem dL_laneOf_21 : decode cL_laneOf 21 = .ok (.iconst 0, 1) := by decide +kernel
theorem dL_laneOf_22 : decode cL_laneOf 22 = .ok (.ireturn, 1) := by decide +kernel
theorem dL_vehicle_0 : decode cL_vehicle 0 = .ok (.aload 4, 2) := by decide +kernel
theorem dL_vehicle_2 : decode cL_vehicle 2 = .ok (.iconst 0, 1) := by decide +kernel
theorem dL_vehicle_3 : decode cL_vehicle 3 = .ok (.aload_n 0, 1) := by decide +kernel
theorem dL_vehicle_4 : decode cL_vehicle 4 = .ok (.iload_n 1, 1) := by decide +kernel
theorem dL_vehicle_5 : decode cL_vehicle 5 = .ok (.iload_n 2, 1) := by decide +kernel
theorem dL_vehicle_6 : decode cL_vehicle 6 = .ok (.iload_n 3, 1) := by decide +kernel
theorem dL_vehicle_7 : decode cL_vehicle 7 = .ok (.invokevirtual 30, 3) := by decide +kernel
theorem dL_vehicle_10 : decode cL_vehicle 10 = .ok (.i2l, 1) := by decide +kernel
theorem dL_vehicle_11 : decode cL_vehicle 11 = .ok (.lastore, 1) := by decide +kernel
theorem dL_vehicle_12 : decode cL_vehicle 12 = .ok (.goto 11, 3) := by decide +kernel
theorem dL_vehicle_15 : decode cL_vehicle 15 = .ok (.astore 5, 2) := by decide +kernel
theorem dL_vehicle_17 : decode cL_vehicle 17 = .ok (.iconst 1, 1) := by decide +kernel
theorem dL_vehicle_18 : decode cL_vehicle 18 = .ok (.ireturn, 1) := by decide +kernel
theorem dL_vehicle_19 : decode cL_vehicle 19 = .ok (.astore 5, 2) := by decide +kernel
theorem dL_vehicle_21 : decode cL_vehicle 21 = .ok (.iconst 2, 1) := by decide +kernel
theorem dL_vehicle_22 : decode cL_vehicle 22 = .ok (.ireturn, 1) := by decide +kernel
theorem dL_vehicle_23 : decode cL_vehicle 23 = .ok (.iconst 0, 1) := by decide +kernel
theorem dL_vehicle_24 : decode cL_vehicle 24 = .ok (.ireturn, 1) := by decide +kernel
theorem dL_why_0 : decode cL_why 0 = .ok (.aload_n 2, 1) := by decide +kernel
theorem dL_why_1 : decode cL_why 1 = .ok (.iconst 0, 1) := by decide +kernel
theorem dL_why_2 : decode cL_why 2 = .ok (.aload_n 0, 1) := by decide +kernel
theorem dL_why_3 : decode cL_why 3 = .ok (.iload_n 1, 1) := by decide +kernel
theorem dL_why_4 : decode cL_why 4 = .ok (.invokevirtual 34, 3) := by decide +kernel
theorem dL_why_7 : decode cL_why 7 = .ok (.i2l, 1) := by decide +kernel
theorem dL_why_8 : decode cL_why 8 = .ok (.lastore, 1) := by decide +kernel
theorem dL_why_9 : decode cL_why 9 = .ok (.goto 6, 3) := by decide +kernel
theorem dL_why_12 : decode cL_why 12 = .ok (.astore_n 3, 1) := by decide +kernel
theorem dL_why_13 : decode cL_why 13 = .ok (.iconst 1, 1) := by decide +kernel
theorem dL_why_14 : decode cL_why 14 = .ok (.ireturn, 1) := by decide +kernel
theorem dL_why_15 : decode cL_why 15 = .ok (.iconst 0, 1) := by decide +kernel
theorem dL_why_16 : decode cL_why 16 = .ok (.ireturn, 1) := by decide +kernel
theorem dL_setting_0 : decode cL_setting 0 = .ok (.aload_n 2, 1) := by decide +kernel
theorem dL_setting_1 : decode cL_setting 1 = .ok (.iconst 0, 1) := by decide +kernel
theorem dL_setting_2 : decode cL_setting 2 = .ok (.aload_n 0, 1) := by decide +kernel
theorem dL_setting_3 : decode cL_setting 3 = .ok (.iload_n 1, 1) := by decide +kernel
theorem dL_setting_4 : decode cL_setting 4 = .ok (.invokevirtual 37, 3) := by decide +kernel
theorem dL_setting_7 : decode cL_setting 7 = .ok (.i2l, 1) := by decide +kernel
theorem dL_setting_8 : decode cL_setting 8 = .ok (.lastore, 1) := by decide +kernel
theorem dL_setting_9 : decode cL_setting 9 = .ok (.goto 6, 3) := by decide +kernel
theorem dL_setting_12 : decode cL_setting 12 = .ok (.astore_n 3, 1) := by decide +kernel
theorem dL_setting_13 : decode cL_setting 13 = .ok (.iconst 1, 1) := by decide +kernel
theorem dL_setting_14 : decode cL_setting 14 = .ok (.ireturn, 1) := by decide +kernel
theorem dL_setting_15 : decode cL_setting 15 = .ok (.iconst 0, 1) := by decide +kernel
theorem dL_setting_16 : decode cL_setting 16 = .ok (.ireturn, 1) := by decide +kernel
theorem dL_lane_0 : decode cL_lane 0 = .ok (.aload_n 1, 1) := by decide +kernel
theorem dL_lane_1 : decode cL_lane 1 = .ok (.iconst 0, 1) := by decide +kernel
theorem dL_lane_2 : decode cL_lane 2 = .ok (.aload_n 0, 1) := by decide +kernel
theorem dL_lane_3 : decode cL_lane 3 = .ok (.invokevirtual 40, 3) := by decide +kernel
theorem dL_lane_6 : decode cL_lane 6 = .ok (.i2l, 1) := by decide +kernel
theorem dL_lane_7 : decode cL_lane 7 = .ok (.lastore, 1) := by decide +kernel
theorem dL_lane_8 : decode cL_lane 8 = .ok (.goto 6, 3) := by decide +kernel
theorem dL_lane_11 : decode cL_lane 11 = .ok (.astore_n 2, 1) := by decide +kernel
theorem dL_lane_12 : decode cL_lane 12 = .ok (.iconst 1, 1) := by decide +kernel
theorem dL_lane_13 : decode cL_lane 13 = .ok (.ireturn, 1) := by decide +kernel
theorem dL_lane_14 : decode cL_lane 14 = .ok (.iconst 0, 1) := by decide +kernel
theorem dL_lane_15 : decode cL_lane 15 = .ok (.ireturn, 1) := by decide +kernel
theorem dL_arrive_0 : decode cL_arrive 0 = .ok (.aload 5, 2) := by decide +kernel
theorem dL_arrive_2 : decode cL_arrive 2 = .ok (.iconst 0, 1) := by decide +kernel
theorem dL_arrive_3 : decode cL_arrive 3 = .ok (.aload_n 0, 1) := by decide +kernel
theorem dL_arrive_4 : decode cL_arrive 4 = .ok (.iload_n 1, 1) := by decide +kernel
theorem dL_arrive_5 : decode cL_arrive 5 = .ok (.iload_n 2, 1) := by decide +kernel
theorem dL_arrive_6 : decode cL_arrive 6 = .ok (.iload_n 3, 1) := by decide +kernel
theorem dL_arrive_7 : decode cL_arrive 7 = .ok (.iload 4, 2) := by decide +kernel
theorem dL_arrive_9 : decode cL_arrive 9 = .ok (.invokevirtual 43, 3) := by decide +kernel
theorem dL_arrive_12 : decode cL_arrive 12 = .ok (.i2l, 1) := by decide +kernel
theorem dL_arrive_13 : decode cL_arrive 13 = .ok (.lastore, 1) := by decide +kernel
theorem dL_arrive_14 : decode cL_arrive 14 = .ok (.goto 15, 3) := by decide +kernel
theorem dL_arrive_17 : decode cL_arrive 17 = .ok (.astore 6, 2) := by decide +kernel
theorem dL_arrive_19 : decode cL_arrive 19 = .ok (.iconst 1, 1) := by decide +kernel
theorem dL_arrive_20 : decode cL_arrive 20 = .ok (.ireturn, 1) := by decide +kernel
theorem dL_arrive_21 : decode cL_arrive 21 = .ok (.astore 6, 2) := by decide +kernel
theorem dL_arrive_23 : decode cL_arrive 23 = .ok (.iconst 2, 1) := by decide +kernel
theorem dL_arrive_24 : decode cL_arrive 24 = .ok (.ireturn, 1) := by decide +kernel
theorem dL_arrive_25 : decode cL_arrive 25 = .ok (.astore 6, 2) := by decide +kernel
theorem dL_arrive_27 : decode cL_arrive 27 = .ok (.iconst 3, 1) := by decide +kernel
theorem dL_arrive_28 : decode cL_arrive 28 = .ok (.ireturn, 1) := by decide +kernel
theorem dL_arrive_29 : decode cL_arrive 29 = .ok (.iconst 0, 1) := by decide +kernel
theorem dL_arrive_30 : decode cL_arrive 30 = .ok (.ireturn, 1) := by decide +kernel
theorem dL_loop_0 : decode cL_loop 0 = .ok (.aload_n 3, 1) := by decide +kernel
theorem dL_loop_1 : decode cL_loop 1 = .ok (.iconst 0, 1) := by decide +kernel
theorem dL_loop_2 : decode cL_loop 2 = .ok (.aload_n 0, 1) := by decide +kernel
theorem dL_loop_3 : decode cL_loop 3 = .ok (.iload_n 1, 1) := by decide +kernel
theorem dL_loop_4 : decode cL_loop 4 = .ok (.iload_n 2, 1) := by decide +kernel
theorem dL_loop_5 : decode cL_loop 5 = .ok (.invokevirtual 47, 3) := by decide +kernel
theorem dL_loop_8 : decode cL_loop 8 = .ok (.i2l, 1) := by decide +kernel
theorem dL_loop_9 : decode cL_loop 9 = .ok (.lastore, 1) := by decide +kernel
theorem dL_loop_10 : decode cL_loop 10 = .ok (.goto 7, 3) := by decide +kernel
theorem dL_loop_13 : decode cL_loop 13 = .ok (.astore 4, 2) := by decide +kernel
theorem dL_loop_15 : decode cL_loop 15 = .ok (.iconst 1, 1) := by decide +kernel
theorem dL_loop_16 : decode cL_loop 16 = .ok (.ireturn, 1) := by decide +kernel
theorem dL_loop_17 : decode cL_loop 17 = .ok (.iconst 0, 1) := by decide +kernel
theorem dL_loop_18 : decode cL_loop 18 = .ok (.ireturn, 1) := by decide +kernel
theorem dL_mend_0 : decode cL_mend 0 = .ok (.aload_n 2, 1) := by decide +kernel
theorem dL_mend_1 : decode cL_mend 1 = .ok (.iconst 0, 1) := by decide +kernel
theorem dL_mend_2 : decode cL_mend 2 = .ok (.aload_n 0, 1) := by decide +kernel
theorem dL_mend_3 : decode cL_mend 3 = .ok (.iload_n 1, 1) := by decide +kernel
theorem dL_mend_4 : decode cL_mend 4 = .ok (.invokevirtual 51, 3) := by decide +kernel
theorem dL_mend_7 : decode cL_mend 7 = .ok (.i2l, 1) := by decide +kernel
theorem dL_mend_8 : decode cL_mend 8 = .ok (.lastore, 1) := by decide +kernel
theorem dL_mend_9 : decode cL_mend 9 = .ok (.goto 9, 3) := by decide +kernel
theorem dL_mend_12 : decode cL_mend 12 = .ok (.astore_n 3, 1) := by decide +kernel
theorem dL_mend_13 : decode cL_mend 13 = .ok (.iconst 1, 1) := by decide +kernel
theorem dL_mend_14 : decode cL_mend 14 = .ok (.ireturn, 1) := by decide +kernel
theorem dL_mend_15 : decode cL_mend 15 = .ok (.astore_n 3, 1) := by decide +kernel
theorem dL_mend_16 : decode cL_mend 16 = .ok (.iconst 2, 1) := by decide +kernel
theorem dL_mend_17 : decode cL_mend 17 = .ok (.ireturn, 1) := by decide +kernel
theorem dL_mend_18 : decode cL_mend 18 = .ok (.iconst 0, 1) := by decide +kernel
theorem dL_mend_19 : decode cL_mend 19 = .ok (.ireturn, 1) := by decide +kernel
theorem dL_run_0 : decode cL_run 0 = .ok (.aload_n 2, 1) := by decide +kernel
theorem dL_run_1 : decode cL_run 1 = .ok (.iconst 0, 1) := by decide +kernel
theorem dL_run_2 : decode cL_run 2 = .ok (.aload_n 0, 1) := by decide +kernel
theorem dL_run_3 : decode cL_run 3 = .ok (.iload_n 1, 1) := by decide +kernel
theorem dL_run_4 : decode cL_run 4 = .ok (.invokevirtual 54, 3) := by decide +kernel
theorem dL_run_7 : decode cL_run 7 = .ok (.i2l, 1) := by decide +kernel
theorem dL_run_8 : decode cL_run 8 = .ok (.lastore, 1) := by decide +kernel
theorem dL_run_9 : decode cL_run 9 = .ok (.goto 6, 3) := by decide +kernel
theorem dL_run_12 : decode cL_run 12 = .ok (.astore_n 3, 1) := by decide +kernel
theorem dL_run_13 : decode cL_run 13 = .ok (.iconst 1, 1) := by decide +kernel
theorem dL_run_14 : decode cL_run 14 = .ok (.ireturn, 1) := by decide +kernel
theorem dL_run_15 : decode cL_run 15 = .ok (.iconst 0, 1) := by decide +kernel
theorem dL_run_16 : decode cL_run 16 = .ok (.ireturn, 1) := by decide +kernel
theorem dL_set_0 : decode cL_set 0 = .ok (.aload_n 3, 1) := by decide +kernel
theorem dL_set_1 : decode cL_set 1 = .ok (.iconst 0, 1) := by decide +kernel
theorem dL_set_2 : decode cL_set 2 = .ok (.aload_n 0, 1) := by decide +kernel
theorem dL_set_3 : decode cL_set 3 = .ok (.iload_n 1, 1) := by decide +kernel
theorem dL_set_4 : decode cL_set 4 = .ok (.iload_n 2, 1) := by decide +kernel
theorem dL_set_5 : decode cL_set 5 = .ok (.invokevirtual 57, 3) := by decide +kernel
theorem dL_set_8 : decode cL_set 8 = .ok (.i2l, 1) := by decide +kernel
theorem dL_set_9 : decode cL_set 9 = .ok (.lastore, 1) := by decide +kernel
theorem dL_set_10 : decode cL_set 10 = .ok (.goto 7, 3) := by decide +kernel
theorem dL_set_13 : decode cL_set 13 = .ok (.astore 4, 2) := by decide +kernel
theorem dL_set_15 : decode cL_set 15 = .ok (.iconst 1, 1) := by decide +kernel
theorem dL_set_16 : decode cL_set 16 = .ok (.ireturn, 1) := by decide +kernel
theorem dL_set_17 : decode cL_set 17 = .ok (.iconst 0, 1) := by decide +kernel
theorem dL_set_18 : decode cL_set 18 = .ok (.ireturn, 1) := by decide +kernel
theorem dL_undo_0 : decode cL_undo 0 = .ok (.aload_n 1, 1) := by decide +kernel
theorem dL_undo_1 : decode cL_undo 1 = .ok (.iconst 0, 1) := by decide +kernel
theorem dL_undo_2 : decode cL_undo 2 = .ok (.aload_n 0, 1) := by decide +kernel
theorem dL_undo_3 : decode cL_undo 3 = .ok (.invokevirtual 60, 3) := by decide +kernel
theorem dL_undo_6 : decode cL_undo 6 = .ok (.i2l, 1) := by decide +kernel
theorem dL_undo_7 : decode cL_undo 7 = .ok (.lastore, 1) := by decide +kernel
theorem dL_undo_8 : decode cL_undo 8 = .ok (.goto 6, 3) := by decide +kernel
theorem dL_undo_11 : decode cL_undo 11 = .ok (.astore_n 2, 1) := by decide +kernel
theorem dL_undo_12 : decode cL_undo 12 = .ok (.iconst 1, 1) := by decide +kernel
theorem dL_undo_13 : decode cL_undo 13 = .ok (.ireturn, 1) := by decide +kernel
theorem dL_undo_14 : decode cL_undo 14 = .ok (.iconst 0, 1) := by decide +kernel
theorem dL_undo_15 : decode cL_undo 15 = .ok (.ireturn, 1) := by decide +kernel
theorem dL_emptyIn_0 : decode cL_emptyIn 0 = .ok (.aload_n 2, 1) := by decide +kernel
theorem dL_emptyIn_1 : decode cL_emptyIn 1 = .ok (.iconst 0, 1) := by decide +kernel
theorem dL_emptyIn_2 : decode cL_emptyIn 2 = .ok (.aload_n 0, 1) := by decide +kernel
theorem dL_emptyIn_3 : decode cL_emptyIn 3 = .ok (.iload_n 1, 1) := by decide +kernel
theorem dL_emptyIn_4 : decode cL_emptyIn 4 = .ok (.invokevirtual 63, 3) := by decide +kernel
theorem dL_emptyIn_7 : decode cL_emptyIn 7 = .ok (.i2l, 1) := by decide +kernel
theorem dL_emptyIn_8 : decode cL_emptyIn 8 = .ok (.lastore, 1) := by decide +kernel
theorem dL_emptyIn_9 : decode cL_emptyIn 9 = .ok (.goto 6, 3) := by decide +kernel
theorem dL_emptyIn_12 : decode cL_emptyIn 12 = .ok (.astore_n 3, 1) := by decide +kernel
theorem dL_emptyIn_13 : decode cL_emptyIn 13 = .ok (.iconst 1, 1) := by decide +kernel
theorem dL_emptyIn_14 : decode cL_emptyIn 14 = .ok (.ireturn, 1) := by decide +kernel
theorem dL_emptyIn_15 : decode cL_emptyIn 15 = .ok (.iconst 0, 1) := by decide +kernel
theorem dL_emptyIn_16 : decode cL_emptyIn 16 = .ok (.ireturn, 1) := by decide +kernel
theorem dL_throughIn_0 : decode cL_throughIn 0 = .ok (.aload_n 3, 1) := by decide +kernel
theorem dL_throughIn_1 : decode cL_throughIn 1 = .ok (.iconst 0, 1) := by decide +kernel
theorem dL_throughIn_2 : decode cL_throughIn 2 = .ok (.aload_n 0, 1) := by decide +kernel
theorem dL_throughIn_3 : decode cL_throughIn 3 = .ok (.iload_n 1, 1) := by decide +kernel
theorem dL_throughIn_4 : decode cL_throughIn 4 = .ok (.iload_n 2, 1) := by decide +kernel
theorem dL_throughIn_5 : decode cL_throughIn 5 = .ok (.invokevirtual 66, 3) := by decide +kernel
theorem dL_throughIn_8 : decode cL_throughIn 8 = .ok (.i2l, 1) := by decide +kernel
theorem dL_throughIn_9 : decode cL_throughIn 9 = .ok (.lastore, 1) := by decide +kernel
theorem dL_throughIn_10 : decode cL_throughIn 10 = .ok (.goto 7, 3) := by decide +kernel
theorem dL_throughIn_13 : decode cL_throughIn 13 = .ok (.astore 4, 2) := by decide +kernel
theorem dL_throughIn_15 : decode cL_throughIn 15 = .ok (.iconst 1, 1) := by decide +kernel
theorem dL_throughIn_16 : decode cL_throughIn 16 = .ok (.ireturn, 1) := by decide +kernel
theorem dL_throughIn_17 : decode cL_throughIn 17 = .ok (.iconst 0, 1) := by decide +kernel
theorem dL_throughIn_18 : decode cL_throughIn 18 = .ok (.ireturn, 1) := by decide +kernel
theorem dL_bestLane_0 : decode cL_bestLane 0 = .ok (.aload_n 2, 1) := by decide +kernel
theorem dL_bestLane_1 : decode cL_bestLane 1 = .ok (.iconst 0, 1) := by decide +kernel
theorem dL_bestLane_2 : decode cL_bestLane 2 = .ok (.aload_n 0, 1) := by decide +kernel
theorem dL_bestLane_3 : decode cL_bestLane 3 = .ok (.iload_n 1, 1) := by decide +kernel
theorem dL_bestLane_4 : decode cL_bestLane 4 = .ok (.invokevirtual 69, 3) := by decide +kernel
theorem dL_bestLane_7 : decode cL_bestLane 7 = .ok (.i2l, 1) := by decide +kernel
theorem dL_bestLane_8 : decode cL_bestLane 8 = .ok (.lastore, 1) := by decide +kernel
theorem dL_bestLane_9 : decode cL_bestLane 9 = .ok (.goto 6, 3) := by decide +kernel
theorem dL_bestLane_12 : decode cL_bestLane 12 = .ok (.astore_n 3, 1) := by decide +kernel
theorem dL_bestLane_13 : decode cL_bestLane 13 = .ok (.iconst 1, 1) := by decide +kernel
theorem dL_bestLane_14 : decode cL_bestLane 14 = .ok (.ireturn, 1) := by decide +kernel
theorem dL_bestLane_15 : decode cL_bestLane 15 = .ok (.iconst 0, 1) := by decide +kernel
theorem dL_bestLane_16 : decode cL_bestLane 16 = .ok (.ireturn, 1) := by decide +kernel
theorem dL_coming_0 : decode cL_coming 0 = .ok (.aload_n 3, 1) := by decide +kernel
theorem dL_coming_1 : decode cL_coming 1 = .ok (.iconst 0, 1) := by decide +kernel
theorem dL_coming_2 : decode cL_coming 2 = .ok (.aload_n 0, 1) := by decide +kernel
theorem dL_coming_3 : decode cL_coming 3 = .ok (.iload_n 1, 1) := by decide +kernel
theorem dL_coming_4 : decode cL_coming 4 = .ok (.iload_n 2, 1) := by decide +kernel
theorem dL_coming_5 : decode cL_coming 5 = .ok (.invokevirtual 72, 3) := by decide +kernel
theorem dL_coming_8 : decode cL_coming 8 = .ok (.i2l, 1) := by decide +kernel
theorem dL_coming_9 : decode cL_coming 9 = .ok (.lastore, 1) := by decide +kernel
theorem dL_coming_10 : decode cL_coming 10 = .ok (.goto 7, 3) := by decide +kernel
theorem dL_coming_13 : decode cL_coming 13 = .ok (.astore 4, 2) := by decide +kernel
theorem dL_coming_15 : decode cL_coming 15 = .ok (.iconst 1, 1) := by decide +kernel
theorem dL_coming_16 : decode cL_coming 16 = .ok (.ireturn, 1) := by decide +kernel
theorem dL_coming_17 : decode cL_coming 17 = .ok (.iconst 0, 1) := by decide +kernel
theorem dL_coming_18 : decode cL_coming 18 = .ok (.ireturn, 1) := by decide +kernel
theorem dL_hitsIn_0 : decode cL_hitsIn 0 = .ok (.aload_n 2, 1) := by decide +kernel
theorem dL_hitsIn_1 : decode cL_hitsIn 1 = .ok (.iconst 0, 1) := by decide +kernel
theorem dL_hitsIn_2 : decode cL_hitsIn 2 = .ok (.aload_n 0, 1) := by decide +kernel
theorem dL_hitsIn_3 : decode cL_hitsIn 3 = .ok (.iload_n 1, 1) := by decide +kernel
theorem dL_hitsIn_4 : decode cL_hitsIn 4 = .ok (.invokevirtual 75, 3) := by decide +kernel
theorem dL_hitsIn_7 : decode cL_hitsIn 7 = .ok (.i2l, 1) := by decide +kernel
theorem dL_hitsIn_8 : decode cL_hitsIn 8 = .ok (.lastore, 1) := by decide +kernel
theorem dL_hitsIn_9 : decode cL_hitsIn 9 = .ok (.goto 6, 3) := by decide +kernel
theorem dL_hitsIn_12 : decode cL_hitsIn 12 = .ok (.astore_n 3, 1) := by decide +kernel
theorem dL_hitsIn_13 : decode cL_hitsIn 13 = .ok (.iconst 1, 1) := by decide +kernel
theorem dL_hitsIn_14 : decode cL_hitsIn 14 = .ok (.ireturn, 1) := by decide +kernel
theorem dL_hitsIn_15 : decode cL_hitsIn 15 = .ok (.iconst 0, 1) := by decide +kernel
theorem dL_hitsIn_16 : decode cL_hitsIn 16 = .ok (.ireturn, 1) := by decide +kernel
theorem dL_runScript_0 : decode cL_runScript 0 = .ok (.aload 4, 2) := by decide +kernel
theorem dL_runScript_2 : decode cL_runScript 2 = .ok (.iconst 0, 1) := by decide +kernel
theorem dL_runScript_3 : decode cL_runScript 3 = .ok (.aload_n 0, 1) := by decide +kernel
theorem dL_runScript_4 : decode cL_runScript 4 = .ok (.iload_n 1, 1) := by decide +kernel
theorem dL_runScript_5 : decode cL_runScript 5 = .ok (.lload_n 2, 1) := by decide +kernel
theorem dL_runScript_6 : decode cL_runScript 6 = .ok (.invokevirtual 78, 3) := by decide +kernel
theorem dL_runScript_9 : decode cL_runScript 9 = .ok (.i2l, 1) := by decide +kernel
theorem dL_runScript_10 : decode cL_runScript 10 = .ok (.lastore, 1) := by decide +kernel
theorem dL_runScript_11 : decode cL_runScript 11 = .ok (.goto 7, 3) := by decide +kernel
theorem dL_runScript_14 : decode cL_runScript 14 = .ok (.astore 5, 2) := by decide +kernel
theorem dL_runScript_16 : decode cL_runScript 16 = .ok (.iconst 1, 1) := by decide +kernel
theorem dL_runScript_17 : decode cL_runScript 17 = .ok (.ireturn, 1) := by decide +kernel
theorem dL_runScript_18 : decode cL_runScript 18 = .ok (.iconst 0, 1) := by decide +kernel
theorem dL_runScript_19 : decode cL_runScript 19 = .ok (.ireturn, 1) := by decide +kernel
theorem dL_simulate_0 : decode cL_simulate 0 = .ok (.aload 4, 2) := by decide +kernel
theorem dL_simulate_2 : decode cL_simulate 2 = .ok (.iconst 0, 1) := by decide +kernel
theorem dL_simulate_3 : decode cL_simulate 3 = .ok (.aload_n 0, 1) := by decide +kernel
theorem dL_simulate_4 : decode cL_simulate 4 = .ok (.lload_n 1, 1) := by decide +kernel
theorem dL_simulate_5 : decode cL_simulate 5 = .ok (.iload_n 3, 1) := by decide +kernel
theorem dL_simulate_6 : decode cL_simulate 6 = .ok (.invokevirtual 82, 3) := by decide +kernel
theorem dL_simulate_9 : decode cL_simulate 9 = .ok (.i2l, 1) := by decide +kernel
theorem dL_simulate_10 : decode cL_simulate 10 = .ok (.lastore, 1) := by decide +kernel
theorem dL_simulate_11 : decode cL_simulate 11 = .ok (.goto 7, 3) := by decide +kernel
theorem dL_simulate_14 : decode cL_simulate 14 = .ok (.astore 5, 2) := by decide +kernel
theorem dL_simulate_16 : decode cL_simulate 16 = .ok (.iconst 1, 1) := by decide +kernel
theorem dL_simulate_17 : decode cL_simulate 17 = .ok (.ireturn, 1) := by decide +kernel
theorem dL_simulate_18 : decode cL_simulate 18 = .ok (.iconst 0, 1) := by decide +kernel
theorem dL_simulate_19 : decode cL_simulate 19 = .ok (.ireturn, 1) := by decide +kernel
theorem dL_save_0 : decode cL_save 0 = .ok (.aload_n 2, 1) := by decide +kernel
theorem dL_save_1 : decode cL_save 1 = .ok (.iconst 0, 1) := by decide +kernel
theorem dL_save_2 : decode cL_save 2 = .ok (.aload_n 0, 1) := by decide +kernel
theorem dL_save_3 : decode cL_save 3 = .ok (.iload_n 1, 1) := by decide +kernel
theorem dL_save_4 : decode cL_save 4 = .ok (.invokevirtual 86, 3) := by decide +kernel
theorem dL_save_7 : decode cL_save 7 = .ok (.i2l, 1) := by decide +kernel
theorem dL_save_8 : decode cL_save 8 = .ok (.lastore, 1) := by decide +kernel
theorem dL_save_9 : decode cL_save 9 = .ok (.goto 6, 3) := by decide +kernel
theorem dL_save_12 : decode cL_save 12 = .ok (.astore_n 3, 1) := by decide +kernel
theorem dL_save_13 : decode cL_save 13 = .ok (.iconst 1, 1) := by decide +kernel
theorem dL_save_14 : decode cL_save 14 = .ok (.ireturn, 1) := by decide +kernel
theorem dL_save_15 : decode cL_save 15 = .ok (.iconst 0, 1) := by decide +kernel
theorem dL_save_16 : decode cL_save 16 = .ok (.ireturn, 1) := by decide +kernel
theorem dL_restore_0 : decode cL_restore 0 = .ok (.aload_n 2, 1) := by decide +kernel
theorem dL_restore_1 : decode cL_restore 1 = .ok (.iconst 0, 1) := by decide +kernel
theorem dL_restore_2 : decode cL_restore 2 = .ok (.aload_n 0, 1) := by decide +kernel
theorem dL_restore_3 : decode cL_restore 3 = .ok (.iload_n 1, 1) := by decide +kernel
theorem dL_restore_4 : decode cL_restore 4 = .ok (.invokevirtual 89, 3) := by decide +kernel
theorem dL_restore_7 : decode cL_restore 7 = .ok (.i2l, 1) := by decide +kernel
theorem dL_restore_8 : decode cL_restore 8 = .ok (.lastore, 1) := by decide +kernel
theorem dL_restore_9 : decode cL_restore 9 = .ok (.goto 9, 3) := by decide +kernel
theorem dL_restore_12 : decode cL_restore 12 = .ok (.astore_n 3, 1) := by decide +kernel
theorem dL_restore_13 : decode cL_restore 13 = .ok (.iconst 1, 1) := by decide +kernel
theorem dL_restore_14 : decode cL_restore 14 = .ok (.ireturn, 1) := by decide +kernel
theorem dL_restore_15 : decode cL_restore 15 = .ok (.astore_n 3, 1) := by decide +kernel
theorem dL_restore_16 : decode cL_restore 16 = .ok (.iconst 2, 1) := by decide +kernel
theorem dL_restore_17 : decode cL_restore 17 = .ok (.ireturn, 1) := by decide +kernel
theorem dL_restore_18 : decode cL_restore 18 = .ok (.iconst 0, 1) := by decide +kernel
theorem dL_restore_19 : decode cL_restore 19 = .ok (.ireturn, 1) := by decide +kernel
theorem dL_law_0 : decode cL_law 0 = .ok (.new 8, 3) := by decide +kernel
theorem dL_law_3 : decode cL_law 3 = .ok (.dup, 1) := by decide +kernel
theorem dL_law_4 : decode cL_law 4 = .ok (.invokespecial 92, 3) := by decide +kernel
theorem dL_law_7 : decode cL_law 7 = .ok (.astore_n 1, 1) := by decide +kernel
theorem dL_law_8 : decode cL_law 8 = .ok (.new 93, 3) := by decide +kernel
theorem dL_law_11 : decode cL_law 11 = .ok (.dup, 1) := by decide +kernel
theorem dL_law_12 : decode cL_law 12 = .ok (.invokespecial 95, 3) := by decide +kernel
theorem dL_law_15 : decode cL_law 15 = .ok (.astore_n 2, 1) := by decide +kernel
theorem dL_law_16 : decode cL_law 16 = .ok (.iconst 1, 1) := by decide +kernel
theorem dL_law_17 : decode cL_law 17 = .ok (.newarray .long, 2) := by decide +kernel
theorem dL_law_19 : decode cL_law 19 = .ok (.astore_n 3, 1) := by decide +kernel
theorem dL_law_20 : decode cL_law 20 = .ok (.iconst 0, 1) := by decide +kernel
theorem dL_law_21 : decode cL_law 21 = .ok (.istore 4, 2) := by decide +kernel
theorem dL_law_23 : decode cL_law 23 = .ok (.iload 4, 2) := by decide +kernel
theorem dL_law_25 : decode cL_law 25 = .ok (.aload_n 0, 1) := by decide +kernel
theorem dL_law_26 : decode cL_law 26 = .ok (.arraylength, 1) := by decide +kernel
theorem dL_law_27 : decode cL_law 27 = .ok (.iconst 5, 1) := by decide +kernel
theorem dL_law_28 : decode cL_law 28 = .ok (.isub, 1) := by decide +kernel
theorem dL_law_29 : decode cL_law 29 = .ok (.if_icmp .gt 1663, 3) := by decide +kernel
theorem dL_law_32 : decode cL_law 32 = .ok (.aload_n 0, 1) := by decide +kernel
theorem dL_law_33 : decode cL_law 33 = .ok (.iload 4, 2) := by decide +kernel
theorem dL_law_35 : decode cL_law 35 = .ok (.iaload, 1) := by decide +kernel
theorem dL_law_36 : decode cL_law 36 = .ok (.bipush 31, 2) := by decide +kernel
theorem dL_law_38 : decode cL_law 38 = .ok (.iand, 1) := by decide +kernel
theorem dL_law_39 : decode cL_law 39 = .ok (.tableswitch 1647 0 24 #[113, 169, 182, 195, 239, 295, 363, 443, 499, 555, 599, 723, 807, 863, 919, 987, 1031, 1087, 1155, 1211, 1279, 1335, 1435, 1535, 1591], 113) := by decide +kernel
theorem dL_law_152 : decode cL_law 152 = .ok (.aload_n 1, 1) := by decide +kernel
theorem dL_law_153 : decode cL_law 153 = .ok (.aload_n 0, 1) := by decide +kernel
theorem dL_law_154 : decode cL_law 154 = .ok (.iload 4, 2) := by decide +kernel
theorem dL_law_156 : decode cL_law 156 = .ok (.iconst 1, 1) := by decide +kernel
theorem dL_law_157 : decode cL_law 157 = .ok (.iadd, 1) := by decide +kernel
theorem dL_law_158 : decode cL_law 158 = .ok (.iaload, 1) := by decide +kernel
theorem dL_law_159 : decode cL_law 159 = .ok (.aload_n 3, 1) := by decide +kernel
theorem dL_law_160 : decode cL_law 160 = .ok (.invokestatic 96, 3) := by decide +kernel
theorem dL_law_163 : decode cL_law 163 = .ok (.istore 5, 2) := by decide +kernel
theorem dL_law_165 : decode cL_law 165 = .ok (.aload_n 2, 1) := by decide +kernel
theorem dL_law_166 : decode cL_law 166 = .ok (.aload_n 0, 1) := by decide +kernel
theorem dL_law_167 : decode cL_law 167 = .ok (.iload 4, 2) := by decide +kernel
theorem dL_law_169 : decode cL_law 169 = .ok (.iconst 1, 1) := by decide +kernel
theorem dL_law_170 : decode cL_law 170 = .ok (.iadd, 1) := by decide +kernel
theorem dL_law_171 : decode cL_law 171 = .ok (.iaload, 1) := by decide +kernel
theorem dL_law_172 : decode cL_law 172 = .ok (.invokevirtual 101, 3) := by decide +kernel
theorem dL_law_175 : decode cL_law 175 = .ok (.istore 6, 2) := by decide +kernel
theorem dL_law_177 : decode cL_law 177 = .ok (.aload_n 2, 1) := by decide +kernel
theorem dL_law_178 : decode cL_law 178 = .ok (.invokevirtual 102, 3) := by decide +kernel
theorem dL_law_181 : decode cL_law 181 = .ok (.iload 5, 2) := by decide +kernel
theorem dL_law_183 : decode cL_law 183 = .ok (.if_icmp .eq 5, 3) := by decide +kernel
theorem dL_law_186 : decode cL_law 186 = .ok (.iconst 0, 1) := by decide +kernel
theorem dL_law_187 : decode cL_law 187 = .ok (.ireturn, 1) := by decide +kernel
theorem dL_law_188 : decode cL_law 188 = .ok (.iload 5, 2) := by decide +kernel
theorem dL_law_190 : decode cL_law 190 = .ok (.ifCond .ne 15, 3) := by decide +kernel
theorem dL_law_193 : decode cL_law 193 = .ok (.aload_n 3, 1) := by decide +kernel
theorem dL_law_194 : decode cL_law 194 = .ok (.iconst 0, 1) := by decide +kernel
theorem dL_law_195 : decode cL_law 195 = .ok (.laload, 1) := by decide +kernel
theorem dL_law_196 : decode cL_law 196 = .ok (.iload 6, 2) := by decide +kernel
theorem dL_law_198 : decode cL_law 198 = .ok (.i2l, 1) := by decide +kernel
theorem dL_law_199 : decode cL_law 199 = .ok (.lcmp, 1) := by decide +kernel
theorem dL_law_200 : decode cL_law 200 = .ok (.ifCond .eq 5, 3) := by decide +kernel
theorem dL_law_203 : decode cL_law 203 = .ok (.iconst 0, 1) := by decide +kernel
theorem dL_law_204 : decode cL_law 204 = .ok (.ireturn, 1) := by decide +kernel
theorem dL_law_205 : decode cL_law 205 = .ok (.goto 1481, 3) := by decide +kernel
theorem dL_law_208 : decode cL_law 208 = .ok (.aload_n 1, 1) := by decide +kernel
theorem dL_law_209 : decode cL_law 209 = .ok (.invokevirtual 105, 3) := by decide +kernel
theorem dL_law_212 : decode cL_law 212 = .ok (.aload_n 2, 1) := by decide +kernel
theorem dL_law_213 : decode cL_law 213 = .ok (.invokevirtual 108, 3) := by decide +kernel
theorem dL_law_216 : decode cL_law 216 = .ok (.if_icmp .eq 1470, 3) := by decide +kernel
theorem dL_law_219 : decode cL_law 219 = .ok (.iconst 0, 1) := by decide +kernel
theorem dL_law_220 : decode cL_law 220 = .ok (.ireturn, 1) := by decide +kernel
theorem dL_law_221 : decode cL_law 221 = .ok (.aload_n 1, 1) := by decide +kernel
theorem dL_law_222 : decode cL_law 222 = .ok (.invokevirtual 109, 3) := by decide +kernel
theorem dL_law_225 : decode cL_law 225 = .ok (.aload_n 2, 1) := by decide +kernel
theorem dL_law_226 : decode cL_law 226 = .ok (.invokevirtual 112, 3) := by decide +kernel
theorem dL_law_229 : decode cL_law 229 = .ok (.if_icmp .eq 1457, 3) := by decide +kernel
theorem dL_law_232 : decode cL_law 232 = .ok (.iconst 0, 1) := by decide +kernel
theorem dL_law_233 : decode cL_law 233 = .ok (.ireturn, 1) := by decide +kernel
theorem dL_law_234 : decode cL_law 234 = .ok (.aload_n 1, 1) := by decide +kernel
theorem dL_law_235 : decode cL_law 235 = .ok (.aload_n 3, 1) := by decide +kernel
theorem dL_law_236 : decode cL_law 236 = .ok (.invokestatic 113, 3) := by decide +kernel
theorem dL_law_239 : decode cL_law 239 = .ok (.istore 5, 2) := by decide +kernel
theorem dL_law_241 : decode cL_law 241 = .ok (.aload_n 2, 1) := by decide +kernel
theorem dL_law_242 : decode cL_law 242 = .ok (.invokevirtual 116, 3) := by decide +kernel
theorem dL_law_245 : decode cL_law 245 = .ok (.istore 6, 2) := by decide +kernel
theorem dL_law_247 : decode cL_law 247 = .ok (.aload_n 2, 1) := by decide +kernel
theorem dL_law_248 : decode cL_law 248 = .ok (.invokevirtual 102, 3) := by decide +kernel
theorem dL_law_251 : decode cL_law 251 = .ok (.iload 5, 2) := by decide +kernel
theorem dL_law_253 : decode cL_law 253 = .ok (.if_icmp .eq 5, 3) := by decide +kernel
theorem dL_law_256 : decode cL_law 256 = .ok (.iconst 0, 1) := by decide +kernel
theorem dL_law_257 : decode cL_law 257 = .ok (.ireturn, 1) := by decide +kernel
theorem dL_law_258 : decode cL_law 258 = .ok (.iload 5, 2) := by decide +kernel
theorem dL_law_260 : decode cL_law 260 = .ok (.ifCond .ne 15, 3) := by decide +kernel
theorem dL_law_263 : decode cL_law 263 = .ok (.aload_n 3, 1) := by decide +kernel
theorem dL_law_264 : decode cL_law 264 = .ok (.iconst 0, 1) := by decide +kernel
theorem dL_law_265 : decode cL_law 265 = .ok (.laload, 1) := by decide +kernel
theorem dL_law_266 : decode cL_law 266 = .ok (.iload 6, 2) := by decide +kernel
theorem dL_law_268 : decode cL_law 268 = .ok (.i2l, 1) := by decide +kernel
theorem dL_law_269 : decode cL_law 269 = .ok (.lcmp, 1) := by decide +kernel
theorem dL_law_270 : decode cL_law 270 = .ok (.ifCond .eq 5, 3) := by decide +kernel
theorem dL_law_273 : decode cL_law 273 = .ok (.iconst 0, 1) := by decide +kernel
theorem dL_law_274 : decode cL_law 274 = .ok (.ireturn, 1) := by decide +kernel
theorem dL_law_275 : decode cL_law 275 = .ok (.goto 1411, 3) := by decide +kernel
theorem dL_law_278 : decode cL_law 278 = .ok (.aload_n 1, 1) := by decide +kernel
theorem dL_law_279 : decode cL_law 279 = .ok (.aload_n 0, 1) := by decide +kernel
theorem dL_law_280 : decode cL_law 280 = .ok (.iload 4, 2) := by decide +kernel
theorem dL_law_282 : decode cL_law 282 = .ok (.iconst 1, 1) := by decide +kernel
theorem dL_law_283 : decode cL_law 283 = .ok (.iadd, 1) := by decide +kernel
theorem dL_law_284 : decode cL_law 284 = .ok (.iaload, 1) := by decide +kernel
theorem dL_law_285 : decode cL_law 285 = .ok (.aload_n 3, 1) := by decide +kernel
theorem dL_law_286 : decode cL_law 286 = .ok (.invokestatic 117, 3) := by decide +kernel
theorem dL_law_289 : decode cL_law 289 = .ok (.istore 5, 2) := by decide +kernel
theorem dL_law_291 : decode cL_law 291 = .ok (.aload_n 2, 1) := by decide +kernel
theorem dL_law_292 : decode cL_law 292 = .ok (.aload_n 0, 1) := by decide +kernel
theorem dL_law_293 : decode cL_law 293 = .ok (.iload 4, 2) := by decide +kernel
theorem dL_law_295 : decode cL_law 295 = .ok (.iconst 1, 1) := by decide +kernel
theorem dL_law_296 : decode cL_law 296 = .ok (.iadd, 1) := by decide +kernel
theorem dL_law_297 : decode cL_law 297 = .ok (.iaload, 1) := by decide +kernel
theorem dL_law_298 : decode cL_law 298 = .ok (.invokevirtual 119, 3) := by decide +kernel
theorem dL_law_301 : decode cL_law 301 = .ok (.istore 6, 2) := by decide +kernel
theorem dL_law_303 : decode cL_law 303 = .ok (.aload_n 2, 1) := by decide +kernel
theorem dL_law_304 : decode cL_law 304 = .ok (.invokevirtual 102, 3) := by decide +kernel
theorem dL_law_307 : decode cL_law 307 = .ok (.iload 5, 2) := by decide +kernel
theorem dL_law_309 : decode cL_law 309 = .ok (.if_icmp .eq 5, 3) := by decide +kernel
theorem dL_law_312 : decode cL_law 312 = .ok (.iconst 0, 1) := by decide +kernel
theorem dL_law_313 : decode cL_law 313 = .ok (.ireturn, 1) := by decide +kernel
theorem dL_law_314 : decode cL_law 314 = .ok (.iload 5, 2) := by decide +kernel
theorem dL_law_316 : decode cL_law 316 = .ok (.ifCond .ne 15, 3) := by decide +kernel
theorem dL_law_319 : decode cL_law 319 = .ok (.aload_n 3, 1) := by decide +kernel
theorem dL_law_320 : decode cL_law 320 = .ok (.iconst 0, 1) := by decide +kernel
theorem dL_law_321 : decode cL_law 321 = .ok (.laload, 1) := by decide +kernel
theorem dL_law_322 : decode cL_law 322 = .ok (.iload 6, 2) := by decide +kernel
theorem dL_law_324 : decode cL_law 324 = .ok (.i2l, 1) := by decide +kernel
theorem dL_law_325 : decode cL_law 325 = .ok (.lcmp, 1) := by decide +kernel
theorem dL_law_326 : decode cL_law 326 = .ok (.ifCond .eq 5, 3) := by decide +kernel
theorem dL_law_329 : decode cL_law 329 = .ok (.iconst 0, 1) := by decide +kernel
theorem dL_law_330 : decode cL_law 330 = .ok (.ireturn, 1) := by decide +kernel
theorem dL_law_331 : decode cL_law 331 = .ok (.goto 1355, 3) := by decide +kernel
theorem dL_law_334 : decode cL_law 334 = .ok (.aload_n 1, 1) := by decide +kernel
theorem dL_law_335 : decode cL_law 335 = .ok (.aload_n 0, 1) := by decide +kernel
theorem dL_law_336 : decode cL_law 336 = .ok (.iload 4, 2) := by decide +kernel
theorem dL_law_338 : decode cL_law 338 = .ok (.iconst 1, 1) := by decide +kernel
theorem dL_law_339 : decode cL_law 339 = .ok (.iadd, 1) := by decide +kernel
theorem dL_law_340 : decode cL_law 340 = .ok (.iaload, 1) := by decide +kernel
theorem dL_law_341 : decode cL_law 341 = .ok (.aload_n 0, 1) := by decide +kernel
theorem dL_law_342 : decode cL_law 342 = .ok (.iload 4, 2) := by decide +kernel
theorem dL_law_344 : decode cL_law 344 = .ok (.iconst 2, 1) := by decide +kernel
theorem dL_law_345 : decode cL_law 345 = .ok (.iadd, 1) := by decide +kernel
theorem dL_law_346 : decode cL_law 346 = .ok (.iaload, 1) := by decide +kernel
theorem dL_law_347 : decode cL_law 347 = .ok (.aload_n 3, 1) := by decide +kernel
theorem dL_law_348 : decode cL_law 348 = .ok (.invokestatic 120, 3) := by decide +kernel
theorem dL_law_351 : decode cL_law 351 = .ok (.istore 5, 2) := by decide +kernel
theorem dL_law_353 : decode cL_law 353 = .ok (.aload_n 2, 1) := by decide +kernel
theorem dL_law_354 : decode cL_law 354 = .ok (.aload_n 0, 1) := by decide +kernel
theorem dL_law_355 : decode cL_law 355 = .ok (.iload 4, 2) := by decide +kernel
theorem dL_law_357 : decode cL_law 357 = .ok (.iconst 1, 1) := by decide +kernel
theorem dL_law_358 : decode cL_law 358 = .ok (.iadd, 1) := by decide +kernel
theorem dL_law_359 : decode cL_law 359 = .ok (.iaload, 1) := by decide +kernel
theorem dL_law_360 : decode cL_law 360 = .ok (.aload_n 0, 1) := by decide +kernel
theorem dL_law_361 : decode cL_law 361 = .ok (.iload 4, 2) := by decide +kernel
theorem dL_law_363 : decode cL_law 363 = .ok (.iconst 2, 1) := by decide +kernel
theorem dL_law_364 : decode cL_law 364 = .ok (.iadd, 1) := by decide +kernel
theorem dL_law_365 : decode cL_law 365 = .ok (.iaload, 1) := by decide +kernel
theorem dL_law_366 : decode cL_law 366 = .ok (.invokevirtual 123, 3) := by decide +kernel
theorem dL_law_369 : decode cL_law 369 = .ok (.istore 6, 2) := by decide +kernel
theorem dL_law_371 : decode cL_law 371 = .ok (.aload_n 2, 1) := by decide +kernel
theorem dL_law_372 : decode cL_law 372 = .ok (.invokevirtual 102, 3) := by decide +kernel
theorem dL_law_375 : decode cL_law 375 = .ok (.iload 5, 2) := by decide +kernel
theorem dL_law_377 : decode cL_law 377 = .ok (.if_icmp .eq 5, 3) := by decide +kernel
theorem dL_law_380 : decode cL_law 380 = .ok (.iconst 0, 1) := by decide +kernel
theorem dL_law_381 : decode cL_law 381 = .ok (.ireturn, 1) := by decide +kernel
theorem dL_law_382 : decode cL_law 382 = .ok (.iload 5, 2) := by decide +kernel
theorem dL_law_384 : decode cL_law 384 = .ok (.ifCond .ne 15, 3) := by decide +kernel
theorem dL_law_387 : decode cL_law 387 = .ok (.aload_n 3, 1) := by decide +kernel
theorem dL_law_388 : decode cL_law 388 = .ok (.iconst 0, 1) := by decide +kernel
theorem dL_law_389 : decode cL_law 389 = .ok (.laload, 1) := by decide +kernel
theorem dL_law_390 : decode cL_law 390 = .ok (.iload 6, 2) := by decide +kernel
theorem dL_law_392 : decode cL_law 392 = .ok (.i2l, 1) := by decide +kernel
theorem dL_law_393 : decode cL_law 393 = .ok (.lcmp, 1) := by decide +kernel
theorem dL_law_394 : decode cL_law 394 = .ok (.ifCond .eq 5, 3) := by decide +kernel
theorem dL_law_397 : decode cL_law 397 = .ok (.iconst 0, 1) := by decide +kernel
theorem dL_law_398 : decode cL_law 398 = .ok (.ireturn, 1) := by decide +kernel
theorem dL_law_399 : decode cL_law 399 = .ok (.goto 1287, 3) := by decide +kernel
theorem dL_law_402 : decode cL_law 402 = .ok (.aload_n 1, 1) := by decide +kernel
theorem dL_law_403 : decode cL_law 403 = .ok (.aload_n 0, 1) := by decide +kernel
theorem dL_law_404 : decode cL_law 404 = .ok (.iload 4, 2) := by decide +kernel
theorem dL_law_406 : decode cL_law 406 = .ok (.iconst 1, 1) := by decide +kernel
theorem dL_law_407 : decode cL_law 407 = .ok (.iadd, 1) := by decide +kernel
theorem dL_law_408 : decode cL_law 408 = .ok (.iaload, 1) := by decide +kernel
theorem dL_law_409 : decode cL_law 409 = .ok (.aload_n 0, 1) := by decide +kernel
theorem dL_law_410 : decode cL_law 410 = .ok (.iload 4, 2) := by decide +kernel
theorem dL_law_412 : decode cL_law 412 = .ok (.iconst 2, 1) := by decide +kernel
theorem dL_law_413 : decode cL_law 413 = .ok (.iadd, 1) := by decide +kernel
theorem dL_law_414 : decode cL_law 414 = .ok (.iaload, 1) := by decide +kernel
theorem dL_law_415 : decode cL_law 415 = .ok (.aload_n 0, 1) := by decide +kernel
theorem dL_law_416 : decode cL_law 416 = .ok (.iload 4, 2) := by decide +kernel
theorem dL_law_418 : decode cL_law 418 = .ok (.iconst 3, 1) := by decide +kernel
theorem dL_law_419 : decode cL_law 419 = .ok (.iadd, 1) := by decide +kernel
theorem dL_law_420 : decode cL_law 420 = .ok (.iaload, 1) := by decide +kernel
theorem dL_law_421 : decode cL_law 421 = .ok (.aload_n 3, 1) := by decide +kernel
theorem dL_law_422 : decode cL_law 422 = .ok (.invokestatic 124, 3) := by decide +kernel
theorem dL_law_425 : decode cL_law 425 = .ok (.istore 5, 2) := by decide +kernel
theorem dL_law_427 : decode cL_law 427 = .ok (.aload_n 2, 1) := by decide +kernel
theorem dL_law_428 : decode cL_law 428 = .ok (.aload_n 0, 1) := by decide +kernel
theorem dL_law_429 : decode cL_law 429 = .ok (.iload 4, 2) := by decide +kernel
theorem dL_law_431 : decode cL_law 431 = .ok (.iconst 1, 1) := by decide +kernel
theorem dL_law_432 : decode cL_law 432 = .ok (.iadd, 1) := by decide +kernel
theorem dL_law_433 : decode cL_law 433 = .ok (.iaload, 1) := by decide +kernel
theorem dL_law_434 : decode cL_law 434 = .ok (.aload_n 0, 1) := by decide +kernel
theorem dL_law_435 : decode cL_law 435 = .ok (.iload 4, 2) := by decide +kernel
theorem dL_law_437 : decode cL_law 437 = .ok (.iconst 2, 1) := by decide +kernel
theorem dL_law_438 : decode cL_law 438 = .ok (.iadd, 1) := by decide +kernel
theorem dL_law_439 : decode cL_law 439 = .ok (.iaload, 1) := by decide +kernel
theorem dL_law_440 : decode cL_law 440 = .ok (.aload_n 0, 1) := by decide +kernel
theorem dL_law_441 : decode cL_law 441 = .ok (.iload 4, 2) := by decide +kernel
theorem dL_law_443 : decode cL_law 443 = .ok (.iconst 3, 1) := by decide +kernel
theorem dL_law_444 : decode cL_law 444 = .ok (.iadd, 1) := by decide +kernel
theorem dL_law_445 : decode cL_law 445 = .ok (.iaload, 1) := by decide +kernel
theorem dL_law_446 : decode cL_law 446 = .ok (.invokevirtual 127, 3) := by decide +kernel
theorem dL_law_449 : decode cL_law 449 = .ok (.istore 6, 2) := by decide +kernel
theorem dL_law_451 : decode cL_law 451 = .ok (.aload_n 2, 1) := by decide +kernel
theorem dL_law_452 : decode cL_law 452 = .ok (.invokevirtual 102, 3) := by decide +kernel
theorem dL_law_455 : decode cL_law 455 = .ok (.iload 5, 2) := by decide +kernel
theorem dL_law_457 : decode cL_law 457 = .ok (.if_icmp .eq 5, 3) := by decide +kernel
theorem dL_law_460 : decode cL_law 460 = .ok (.iconst 0, 1) := by decide +kernel
theorem dL_law_461 : decode cL_law 461 = .ok (.ireturn, 1) := by decide +kernel
theorem dL_law_462 : decode cL_law 462 = .ok (.iload 5, 2) := by decide +kernel
theorem dL_law_464 : decode cL_law 464 = .ok (.ifCond .ne 15, 3) := by decide +kernel
theorem dL_law_467 : decode cL_law 467 = .ok (.aload_n 3, 1) := by decide +kernel
theorem dL_law_468 : decode cL_law 468 = .ok (.iconst 0, 1) := by decide +kernel
theorem dL_law_469 : decode cL_law 469 = .ok (.laload, 1) := by decide +kernel
theorem dL_law_470 : decode cL_law 470 = .ok (.iload 6, 2) := by decide +kernel
theorem dL_law_472 : decode cL_law 472 = .ok (.i2l, 1) := by decide +kernel
theorem dL_law_473 : decode cL_law 473 = .ok (.lcmp, 1) := by decide +kernel
theorem dL_law_474 : decode cL_law 474 = .ok (.ifCond .eq 5, 3) := by decide +kernel
theorem dL_law_477 : decode cL_law 477 = .ok (.iconst 0, 1) := by decide +kernel
theorem dL_law_478 : decode cL_law 478 = .ok (.ireturn, 1) := by decide +kernel
theorem dL_law_479 : decode cL_law 479 = .ok (.goto 1207, 3) := by decide +kernel
theorem dL_law_482 : decode cL_law 482 = .ok (.aload_n 1, 1) := by decide +kernel
theorem dL_law_483 : decode cL_law 483 = .ok (.aload_n 0, 1) := by decide +kernel
theorem dL_law_484 : decode cL_law 484 = .ok (.iload 4, 2) := by decide +kernel
theorem dL_law_486 : decode cL_law 486 = .ok (.iconst 1, 1) := by decide +kernel
theorem dL_law_487 : decode cL_law 487 = .ok (.iadd, 1) := by decide +kernel
theorem dL_law_488 : decode cL_law 488 = .ok (.iaload, 1) := by decide +kernel
theorem dL_law_489 : decode cL_law 489 = .ok (.aload_n 3, 1) := by decide +kernel
theorem dL_law_490 : decode cL_law 490 = .ok (.invokestatic 128, 3) := by decide +kernel
theorem dL_law_493 : decode cL_law 493 = .ok (.istore 5, 2) := by decide +kernel
theorem dL_law_495 : decode cL_law 495 = .ok (.aload_n 2, 1) := by decide +kernel
theorem dL_law_496 : decode cL_law 496 = .ok (.aload_n 0, 1) := by decide +kernel
theorem dL_law_497 : decode cL_law 497 = .ok (.iload 4, 2) := by decide +kernel
theorem dL_law_499 : decode cL_law 499 = .ok (.iconst 1, 1) := by decide +kernel
theorem dL_law_500 : decode cL_law 500 = .ok (.iadd, 1) := by decide +kernel
theorem dL_law_501 : decode cL_law 501 = .ok (.iaload, 1) := by decide +kernel
theorem dL_law_502 : decode cL_law 502 = .ok (.invokevirtual 130, 3) := by decide +kernel
theorem dL_law_505 : decode cL_law 505 = .ok (.istore 6, 2) := by decide +kernel
theorem dL_law_507 : decode cL_law 507 = .ok (.aload_n 2, 1) := by decide +kernel
theorem dL_law_508 : decode cL_law 508 = .ok (.invokevirtual 102, 3) := by decide +kernel
theorem dL_law_511 : decode cL_law 511 = .ok (.iload 5, 2) := by decide +kernel
theorem dL_law_513 : decode cL_law 513 = .ok (.if_icmp .eq 5, 3) := by decide +kernel
theorem dL_law_516 : decode cL_law 516 = .ok (.iconst 0, 1) := by decide +kernel
theorem dL_law_517 : decode cL_law 517 = .ok (.ireturn, 1) := by decide +kernel
theorem dL_law_518 : decode cL_law 518 = .ok (.iload 5, 2) := by decide +kernel
theorem dL_law_520 : decode cL_law 520 = .ok (.ifCond .ne 15, 3) := by decide +kernel
theorem dL_law_523 : decode cL_law 523 = .ok (.aload_n 3, 1) := by decide +kernel
theorem dL_law_524 : decode cL_law 524 = .ok (.iconst 0, 1) := by decide +kernel
theorem dL_law_525 : decode cL_law 525 = .ok (.laload, 1) := by decide +kernel
theorem dL_law_526 : decode cL_law 526 = .ok (.iload 6, 2) := by decide +kernel
theorem dL_law_528 : decode cL_law 528 = .ok (.i2l, 1) := by decide +kernel
theorem dL_law_529 : decode cL_law 529 = .ok (.lcmp, 1) := by decide +kernel
theorem dL_law_530 : decode cL_law 530 = .ok (.ifCond .eq 5, 3) := by decide +kernel
theorem dL_law_533 : decode cL_law 533 = .ok (.iconst 0, 1) := by decide +kernel
theorem dL_law_534 : decode cL_law 534 = .ok (.ireturn, 1) := by decide +kernel
theorem dL_law_535 : decode cL_law 535 = .ok (.goto 1151, 3) := by decide +kernel
theorem dL_law_538 : decode cL_law 538 = .ok (.aload_n 1, 1) := by decide +kernel
theorem dL_law_539 : decode cL_law 539 = .ok (.aload_n 0, 1) := by decide +kernel
theorem dL_law_540 : decode cL_law 540 = .ok (.iload 4, 2) := by decide +kernel
theorem dL_law_542 : decode cL_law 542 = .ok (.iconst 1, 1) := by decide +kernel
theorem dL_law_543 : decode cL_law 543 = .ok (.iadd, 1) := by decide +kernel
theorem dL_law_544 : decode cL_law 544 = .ok (.iaload, 1) := by decide +kernel
theorem dL_law_545 : decode cL_law 545 = .ok (.aload_n 3, 1) := by decide +kernel
theorem dL_law_546 : decode cL_law 546 = .ok (.invokestatic 131, 3) := by decide +kernel
theorem dL_law_549 : decode cL_law 549 = .ok (.istore 5, 2) := by decide +kernel
theorem dL_law_551 : decode cL_law 551 = .ok (.aload_n 2, 1) := by decide +kernel
theorem dL_law_552 : decode cL_law 552 = .ok (.aload_n 0, 1) := by decide +kernel
theorem dL_law_553 : decode cL_law 553 = .ok (.iload 4, 2) := by decide +kernel
theorem dL_law_555 : decode cL_law 555 = .ok (.iconst 1, 1) := by decide +kernel
theorem dL_law_556 : decode cL_law 556 = .ok (.iadd, 1) := by decide +kernel
theorem dL_law_557 : decode cL_law 557 = .ok (.iaload, 1) := by decide +kernel
theorem dL_law_558 : decode cL_law 558 = .ok (.invokevirtual 133, 3) := by decide +kernel
theorem dL_law_561 : decode cL_law 561 = .ok (.istore 6, 2) := by decide +kernel
theorem dL_law_563 : decode cL_law 563 = .ok (.aload_n 2, 1) := by decide +kernel
theorem dL_law_564 : decode cL_law 564 = .ok (.invokevirtual 102, 3) := by decide +kernel
theorem dL_law_567 : decode cL_law 567 = .ok (.iload 5, 2) := by decide +kernel
theorem dL_law_569 : decode cL_law 569 = .ok (.if_icmp .eq 5, 3) := by decide +kernel
theorem dL_law_572 : decode cL_law 572 = .ok (.iconst 0, 1) := by decide +kernel
theorem dL_law_573 : decode cL_law 573 = .ok (.ireturn, 1) := by decide +kernel
theorem dL_law_574 : decode cL_law 574 = .ok (.iload 5, 2) := by decide +kernel
theorem dL_law_576 : decode cL_law 576 = .ok (.ifCond .ne 15, 3) := by decide +kernel
theorem dL_law_579 : decode cL_law 579 = .ok (.aload_n 3, 1) := by decide +kernel
theorem dL_law_580 : decode cL_law 580 = .ok (.iconst 0, 1) := by decide +kernel
theorem dL_law_581 : decode cL_law 581 = .ok (.laload, 1) := by decide +kernel
theorem dL_law_582 : decode cL_law 582 = .ok (.iload 6, 2) := by decide +kernel
theorem dL_law_584 : decode cL_law 584 = .ok (.i2l, 1) := by decide +kernel
theorem dL_law_585 : decode cL_law 585 = .ok (.lcmp, 1) := by decide +kernel
theorem dL_law_586 : decode cL_law 586 = .ok (.ifCond .eq 5, 3) := by decide +kernel
theorem dL_law_589 : decode cL_law 589 = .ok (.iconst 0, 1) := by decide +kernel
theorem dL_law_590 : decode cL_law 590 = .ok (.ireturn, 1) := by decide +kernel
theorem dL_law_591 : decode cL_law 591 = .ok (.goto 1095, 3) := by decide +kernel
theorem dL_law_594 : decode cL_law 594 = .ok (.aload_n 1, 1) := by decide +kernel
theorem dL_law_595 : decode cL_law 595 = .ok (.aload_n 3, 1) := by decide +kernel
theorem dL_law_596 : decode cL_law 596 = .ok (.invokestatic 134, 3) := by decide +kernel
theorem dL_law_599 : decode cL_law 599 = .ok (.istore 5, 2) := by decide +kernel
theorem dL_law_601 : decode cL_law 601 = .ok (.aload_n 2, 1) := by decide +kernel
theorem dL_law_602 : decode cL_law 602 = .ok (.invokevirtual 136, 3) := by decide +kernel
theorem dL_law_605 : decode cL_law 605 = .ok (.istore 6, 2) := by decide +kernel
theorem dL_law_607 : decode cL_law 607 = .ok (.aload_n 2, 1) := by decide +kernel
theorem dL_law_608 : decode cL_law 608 = .ok (.invokevirtual 102, 3) := by decide +kernel
theorem dL_law_611 : decode cL_law 611 = .ok (.iload 5, 2) := by decide +kernel
theorem dL_law_613 : decode cL_law 613 = .ok (.if_icmp .eq 5, 3) := by decide +kernel
theorem dL_law_616 : decode cL_law 616 = .ok (.iconst 0, 1) := by decide +kernel
theorem dL_law_617 : decode cL_law 617 = .ok (.ireturn, 1) := by decide +kernel
theorem dL_law_618 : decode cL_law 618 = .ok (.iload 5, 2) := by decide +kernel
theorem dL_law_620 : decode cL_law 620 = .ok (.ifCond .ne 15, 3) := by decide +kernel
theorem dL_law_623 : decode cL_law 623 = .ok (.aload_n 3, 1) := by decide +kernel
theorem dL_law_624 : decode cL_law 624 = .ok (.iconst 0, 1) := by decide +kernel
theorem dL_law_625 : decode cL_law 625 = .ok (.laload, 1) := by decide +kernel
theorem dL_law_626 : decode cL_law 626 = .ok (.iload 6, 2) := by decide +kernel
theorem dL_law_628 : decode cL_law 628 = .ok (.i2l, 1) := by decide +kernel
theorem dL_law_629 : decode cL_law 629 = .ok (.lcmp, 1) := by decide +kernel
theorem dL_law_630 : decode cL_law 630 = .ok (.ifCond .eq 5, 3) := by decide +kernel
theorem dL_law_633 : decode cL_law 633 = .ok (.iconst 0, 1) := by decide +kernel
theorem dL_law_634 : decode cL_law 634 = .ok (.ireturn, 1) := by decide +kernel
theorem dL_law_635 : decode cL_law 635 = .ok (.goto 1051, 3) := by decide +kernel
theorem dL_law_638 : decode cL_law 638 = .ok (.aload_n 1, 1) := by decide +kernel
theorem dL_law_639 : decode cL_law 639 = .ok (.aload_n 0, 1) := by decide +kernel
theorem dL_law_640 : decode cL_law 640 = .ok (.iload 4, 2) := by decide +kernel
theorem dL_law_642 : decode cL_law 642 = .ok (.iconst 1, 1) := by decide +kernel
theorem dL_law_643 : decode cL_law 643 = .ok (.iadd, 1) := by decide +kernel
theorem dL_law_644 : decode cL_law 644 = .ok (.iaload, 1) := by decide +kernel
theorem dL_law_645 : decode cL_law 645 = .ok (.aload_n 0, 1) := by decide +kernel
theorem dL_law_646 : decode cL_law 646 = .ok (.iload 4, 2) := by decide +kernel
theorem dL_law_648 : decode cL_law 648 = .ok (.iconst 2, 1) := by decide +kernel
theorem dL_law_649 : decode cL_law 649 = .ok (.iadd, 1) := by decide +kernel
theorem dL_law_650 : decode cL_law 650 = .ok (.iaload, 1) := by decide +kernel
theorem dL_law_651 : decode cL_law 651 = .ok (.aload_n 0, 1) := by decide +kernel
theorem dL_law_652 : decode cL_law 652 = .ok (.iload 4, 2) := by decide +kernel
theorem dL_law_654 : decode cL_law 654 = .ok (.iconst 3, 1) := by decide +kernel
theorem dL_law_655 : decode cL_law 655 = .ok (.iadd, 1) := by decide +kernel
theorem dL_law_656 : decode cL_law 656 = .ok (.iaload, 1) := by decide +kernel
theorem dL_law_657 : decode cL_law 657 = .ok (.ifCond .eq 7, 3) := by decide +kernel
theorem dL_law_660 : decode cL_law 660 = .ok (.iconst 1, 1) := by decide +kernel
theorem dL_law_661 : decode cL_law 661 = .ok (.goto 4, 3) := by decide +kernel
theorem dL_law_664 : decode cL_law 664 = .ok (.iconst 0, 1) := by decide +kernel
theorem dL_law_665 : decode cL_law 665 = .ok (.aload_n 0, 1) := by decide +kernel
theorem dL_law_666 : decode cL_law 666 = .ok (.iload 4, 2) := by decide +kernel
theorem dL_law_668 : decode cL_law 668 = .ok (.iconst 4, 1) := by decide +kernel
theorem dL_law_669 : decode cL_law 669 = .ok (.iadd, 1) := by decide +kernel
theorem dL_law_670 : decode cL_law 670 = .ok (.iaload, 1) := by decide +kernel
theorem dL_law_671 : decode cL_law 671 = .ok (.ifCond .eq 7, 3) := by decide +kernel
theorem dL_law_674 : decode cL_law 674 = .ok (.iconst 1, 1) := by decide +kernel
theorem dL_law_675 : decode cL_law 675 = .ok (.goto 4, 3) := by decide +kernel
theorem dL_law_678 : decode cL_law 678 = .ok (.iconst 0, 1) := by decide +kernel
theorem dL_law_679 : decode cL_law 679 = .ok (.aload_n 3, 1) := by decide +kernel
theorem dL_law_680 : decode cL_law 680 = .ok (.invokestatic 137, 3) := by decide +kernel
theorem dL_law_683 : decode cL_law 683 = .ok (.istore 5, 2) := by decide +kernel
theorem dL_law_685 : decode cL_law 685 = .ok (.aload_n 2, 1) := by decide +kernel
theorem dL_law_686 : decode cL_law 686 = .ok (.aload_n 0, 1) := by decide +kernel
theorem dL_law_687 : decode cL_law 687 = .ok (.iload 4, 2) := by decide +kernel
theorem dL_law_689 : decode cL_law 689 = .ok (.iconst 1, 1) := by decide +kernel
theorem dL_law_690 : decode cL_law 690 = .ok (.iadd, 1) := by decide +kernel
theorem dL_law_691 : decode cL_law 691 = .ok (.iaload, 1) := by decide +kernel
theorem dL_law_692 : decode cL_law 692 = .ok (.aload_n 0, 1) := by decide +kernel
theorem dL_law_693 : decode cL_law 693 = .ok (.iload 4, 2) := by decide +kernel
theorem dL_law_695 : decode cL_law 695 = .ok (.iconst 2, 1) := by decide +kernel
theorem dL_law_696 : decode cL_law 696 = .ok (.iadd, 1) := by decide +kernel
theorem dL_law_697 : decode cL_law 697 = .ok (.iaload, 1) := by decide +kernel
theorem dL_law_698 : decode cL_law 698 = .ok (.aload_n 0, 1) := by decide +kernel
theorem dL_law_699 : decode cL_law 699 = .ok (.iload 4, 2) := by decide +kernel
theorem dL_law_701 : decode cL_law 701 = .ok (.iconst 3, 1) := by decide +kernel
theorem dL_law_702 : decode cL_law 702 = .ok (.iadd, 1) := by decide +kernel
theorem dL_law_703 : decode cL_law 703 = .ok (.iaload, 1) := by decide +kernel
theorem dL_law_704 : decode cL_law 704 = .ok (.ifCond .eq 7, 3) := by decide +kernel
theorem dL_law_707 : decode cL_law 707 = .ok (.iconst 1, 1) := by decide +kernel
theorem dL_law_708 : decode cL_law 708 = .ok (.goto 4, 3) := by decide +kernel
theorem dL_law_711 : decode cL_law 711 = .ok (.iconst 0, 1) := by decide +kernel
theorem dL_law_712 : decode cL_law 712 = .ok (.aload_n 0, 1) := by decide +kernel
theorem dL_law_713 : decode cL_law 713 = .ok (.iload 4, 2) := by decide +kernel
theorem dL_law_715 : decode cL_law 715 = .ok (.iconst 4, 1) := by decide +kernel
theorem dL_law_716 : decode cL_law 716 = .ok (.iadd, 1) := by decide +kernel
theorem dL_law_717 : decode cL_law 717 = .ok (.iaload, 1) := by decide +kernel
theorem dL_law_718 : decode cL_law 718 = .ok (.ifCond .eq 7, 3) := by decide +kernel
theorem dL_law_721 : decode cL_law 721 = .ok (.iconst 1, 1) := by decide +kernel
theorem dL_law_722 : decode cL_law 722 = .ok (.goto 4, 3) := by decide +kernel
theorem dL_law_725 : decode cL_law 725 = .ok (.iconst 0, 1) := by decide +kernel
theorem dL_law_726 : decode cL_law 726 = .ok (.invokevirtual 140, 3) := by decide +kernel
theorem dL_law_729 : decode cL_law 729 = .ok (.istore 6, 2) := by decide +kernel
theorem dL_law_731 : decode cL_law 731 = .ok (.aload_n 2, 1) := by decide +kernel
theorem dL_law_732 : decode cL_law 732 = .ok (.invokevirtual 102, 3) := by decide +kernel
theorem dL_law_735 : decode cL_law 735 = .ok (.iload 5, 2) := by decide +kernel
theorem dL_law_737 : decode cL_law 737 = .ok (.if_icmp .eq 5, 3) := by decide +kernel
theorem dL_law_740 : decode cL_law 740 = .ok (.iconst 0, 1) := by decide +kernel
theorem dL_law_741 : decode cL_law 741 = .ok (.ireturn, 1) := by decide +kernel
theorem dL_law_742 : decode cL_law 742 = .ok (.iload 5, 2) := by decide +kernel
theorem dL_law_744 : decode cL_law 744 = .ok (.ifCond .ne 15, 3) := by decide +kernel
theorem dL_law_747 : decode cL_law 747 = .ok (.aload_n 3, 1) := by decide +kernel
theorem dL_law_748 : decode cL_law 748 = .ok (.iconst 0, 1) := by decide +kernel
theorem dL_law_749 : decode cL_law 749 = .ok (.laload, 1) := by decide +kernel
theorem dL_law_750 : decode cL_law 750 = .ok (.iload 6, 2) := by decide +kernel
theorem dL_law_752 : decode cL_law 752 = .ok (.i2l, 1) := by decide +kernel
theorem dL_law_753 : decode cL_law 753 = .ok (.lcmp, 1) := by decide +kernel
theorem dL_law_754 : decode cL_law 754 = .ok (.ifCond .eq 5, 3) := by decide +kernel
theorem dL_law_757 : decode cL_law 757 = .ok (.iconst 0, 1) := by decide +kernel
theorem dL_law_758 : decode cL_law 758 = .ok (.ireturn, 1) := by decide +kernel
theorem dL_law_759 : decode cL_law 759 = .ok (.goto 927, 3) := by decide +kernel
theorem dL_law_762 : decode cL_law 762 = .ok (.aload_n 1, 1) := by decide +kernel
theorem dL_law_763 : decode cL_law 763 = .ok (.aload_n 0, 1) := by decide +kernel
theorem dL_law_764 : decode cL_law 764 = .ok (.iload 4, 2) := by decide +kernel
theorem dL_law_766 : decode cL_law 766 = .ok (.iconst 1, 1) := by decide +kernel
theorem dL_law_767 : decode cL_law 767 = .ok (.iadd, 1) := by decide +kernel
theorem dL_law_768 : decode cL_law 768 = .ok (.iaload, 1) := by decide +kernel
theorem dL_law_769 : decode cL_law 769 = .ok (.aload_n 0, 1) := by decide +kernel
theorem dL_law_770 : decode cL_law 770 = .ok (.iload 4, 2) := by decide +kernel
theorem dL_law_772 : decode cL_law 772 = .ok (.iconst 2, 1) := by decide +kernel
theorem dL_law_773 : decode cL_law 773 = .ok (.iadd, 1) := by decide +kernel
theorem dL_law_774 : decode cL_law 774 = .ok (.iaload, 1) := by decide +kernel
theorem dL_law_775 : decode cL_law 775 = .ok (.ifCond .eq 7, 3) := by decide +kernel
theorem dL_law_778 : decode cL_law 778 = .ok (.iconst 1, 1) := by decide +kernel
theorem dL_law_779 : decode cL_law 779 = .ok (.goto 4, 3) := by decide +kernel
theorem dL_law_782 : decode cL_law 782 = .ok (.iconst 0, 1) := by decide +kernel
theorem dL_law_783 : decode cL_law 783 = .ok (.aload_n 3, 1) := by decide +kernel
theorem dL_law_784 : decode cL_law 784 = .ok (.invokestatic 141, 3) := by decide +kernel
theorem dL_law_787 : decode cL_law 787 = .ok (.istore 5, 2) := by decide +kernel
theorem dL_law_789 : decode cL_law 789 = .ok (.aload_n 2, 1) := by decide +kernel
theorem dL_law_790 : decode cL_law 790 = .ok (.aload_n 0, 1) := by decide +kernel
theorem dL_law_791 : decode cL_law 791 = .ok (.iload 4, 2) := by decide +kernel
theorem dL_law_793 : decode cL_law 793 = .ok (.iconst 1, 1) := by decide +kernel
theorem dL_law_794 : decode cL_law 794 = .ok (.iadd, 1) := by decide +kernel
theorem dL_law_795 : decode cL_law 795 = .ok (.iaload, 1) := by decide +kernel
theorem dL_law_796 : decode cL_law 796 = .ok (.aload_n 0, 1) := by decide +kernel
theorem dL_law_797 : decode cL_law 797 = .ok (.iload 4, 2) := by decide +kernel
theorem dL_law_799 : decode cL_law 799 = .ok (.iconst 2, 1) := by decide +kernel
theorem dL_law_800 : decode cL_law 800 = .ok (.iadd, 1) := by decide +kernel
theorem dL_law_801 : decode cL_law 801 = .ok (.iaload, 1) := by decide +kernel
theorem dL_law_802 : decode cL_law 802 = .ok (.ifCond .eq 7, 3) := by decide +kernel
theorem dL_law_805 : decode cL_law 805 = .ok (.iconst 1, 1) := by decide +kernel
theorem dL_law_806 : decode cL_law 806 = .ok (.goto 4, 3) := by decide +kernel
theorem dL_law_809 : decode cL_law 809 = .ok (.iconst 0, 1) := by decide +kernel
theorem dL_law_810 : decode cL_law 810 = .ok (.invokevirtual 144, 3) := by decide +kernel
theorem dL_law_813 : decode cL_law 813 = .ok (.istore 6, 2) := by decide +kernel
theorem dL_law_815 : decode cL_law 815 = .ok (.aload_n 2, 1) := by decide +kernel
theorem dL_law_816 : decode cL_law 816 = .ok (.invokevirtual 102, 3) := by decide +kernel
theorem dL_law_819 : decode cL_law 819 = .ok (.iload 5, 2) := by decide +kernel
theorem dL_law_821 : decode cL_law 821 = .ok (.if_icmp .eq 5, 3) := by decide +kernel
theorem dL_law_824 : decode cL_law 824 = .ok (.iconst 0, 1) := by decide +kernel
theorem dL_law_825 : decode cL_law 825 = .ok (.ireturn, 1) := by decide +kernel
theorem dL_law_826 : decode cL_law 826 = .ok (.iload 5, 2) := by decide +kernel
theorem dL_law_828 : decode cL_law 828 = .ok (.ifCond .ne 15, 3) := by decide +kernel
theorem dL_law_831 : decode cL_law 831 = .ok (.aload_n 3, 1) := by decide +kernel
theorem dL_law_832 : decode cL_law 832 = .ok (.iconst 0, 1) := by decide +kernel
theorem dL_law_833 : decode cL_law 833 = .ok (.laload, 1) := by decide +kernel
theorem dL_law_834 : decode cL_law 834 = .ok (.iload 6, 2) := by decide +kernel
theorem dL_law_836 : decode cL_law 836 = .ok (.i2l, 1) := by decide +kernel
theorem dL_law_837 : decode cL_law 837 = .ok (.lcmp, 1) := by decide +kernel
theorem dL_law_838 : decode cL_law 838 = .ok (.ifCond .eq 5, 3) := by decide +kernel
theorem dL_law_841 : decode cL_law 841 = .ok (.iconst 0, 1) := by decide +kernel
theorem dL_law_842 : decode cL_law 842 = .ok (.ireturn, 1) := by decide +kernel
theorem dL_law_843 : decode cL_law 843 = .ok (.goto 843, 3) := by decide +kernel
theorem dL_law_846 : decode cL_law 846 = .ok (.aload_n 1, 1) := by decide +kernel
theorem dL_law_847 : decode cL_law 847 = .ok (.aload_n 0, 1) := by decide +kernel
theorem dL_law_848 : decode cL_law 848 = .ok (.iload 4, 2) := by decide +kernel
theorem dL_law_850 : decode cL_law 850 = .ok (.iconst 1, 1) := by decide +kernel
theorem dL_law_851 : decode cL_law 851 = .ok (.iadd, 1) := by decide +kernel
theorem dL_law_852 : decode cL_law 852 = .ok (.iaload, 1) := by decide +kernel
theorem dL_law_853 : decode cL_law 853 = .ok (.aload_n 3, 1) := by decide +kernel
theorem dL_law_854 : decode cL_law 854 = .ok (.invokestatic 145, 3) := by decide +kernel
theorem dL_law_857 : decode cL_law 857 = .ok (.istore 5, 2) := by decide +kernel
theorem dL_law_859 : decode cL_law 859 = .ok (.aload_n 2, 1) := by decide +kernel
theorem dL_law_860 : decode cL_law 860 = .ok (.aload_n 0, 1) := by decide +kernel
theorem dL_law_861 : decode cL_law 861 = .ok (.iload 4, 2) := by decide +kernel
theorem dL_law_863 : decode cL_law 863 = .ok (.iconst 1, 1) := by decide +kernel
theorem dL_law_864 : decode cL_law 864 = .ok (.iadd, 1) := by decide +kernel
theorem dL_law_865 : decode cL_law 865 = .ok (.iaload, 1) := by decide +kernel
theorem dL_law_866 : decode cL_law 866 = .ok (.invokevirtual 147, 3) := by decide +kernel
theorem dL_law_869 : decode cL_law 869 = .ok (.istore 6, 2) := by decide +kernel
theorem dL_law_871 : decode cL_law 871 = .ok (.aload_n 2, 1) := by decide +kernel
theorem dL_law_872 : decode cL_law 872 = .ok (.invokevirtual 102, 3) := by decide +kernel
theorem dL_law_875 : decode cL_law 875 = .ok (.iload 5, 2) := by decide +kernel
theorem dL_law_877 : decode cL_law 877 = .ok (.if_icmp .eq 5, 3) := by decide +kernel
theorem dL_law_880 : decode cL_law 880 = .ok (.iconst 0, 1) := by decide +kernel
theorem dL_law_881 : decode cL_law 881 = .ok (.ireturn, 1) := by decide +kernel
theorem dL_law_882 : decode cL_law 882 = .ok (.iload 5, 2) := by decide +kernel
theorem dL_law_884 : decode cL_law 884 = .ok (.ifCond .ne 15, 3) := by decide +kernel
theorem dL_law_887 : decode cL_law 887 = .ok (.aload_n 3, 1) := by decide +kernel
theorem dL_law_888 : decode cL_law 888 = .ok (.iconst 0, 1) := by decide +kernel
theorem dL_law_889 : decode cL_law 889 = .ok (.laload, 1) := by decide +kernel
theorem dL_law_890 : decode cL_law 890 = .ok (.iload 6, 2) := by decide +kernel
theorem dL_law_892 : decode cL_law 892 = .ok (.i2l, 1) := by decide +kernel
theorem dL_law_893 : decode cL_law 893 = .ok (.lcmp, 1) := by decide +kernel
theorem dL_law_894 : decode cL_law 894 = .ok (.ifCond .eq 5, 3) := by decide +kernel
theorem dL_law_897 : decode cL_law 897 = .ok (.iconst 0, 1) := by decide +kernel
theorem dL_law_898 : decode cL_law 898 = .ok (.ireturn, 1) := by decide +kernel
theorem dL_law_899 : decode cL_law 899 = .ok (.goto 787, 3) := by decide +kernel
theorem dL_law_902 : decode cL_law 902 = .ok (.aload_n 1, 1) := by decide +kernel
theorem dL_law_903 : decode cL_law 903 = .ok (.aload_n 0, 1) := by decide +kernel
theorem dL_law_904 : decode cL_law 904 = .ok (.iload 4, 2) := by decide +kernel
theorem dL_law_906 : decode cL_law 906 = .ok (.iconst 1, 1) := by decide +kernel
theorem dL_law_907 : decode cL_law 907 = .ok (.iadd, 1) := by decide +kernel
theorem dL_law_908 : decode cL_law 908 = .ok (.iaload, 1) := by decide +kernel
theorem dL_law_909 : decode cL_law 909 = .ok (.aload_n 3, 1) := by decide +kernel
theorem dL_law_910 : decode cL_law 910 = .ok (.invokestatic 148, 3) := by decide +kernel
theorem dL_law_913 : decode cL_law 913 = .ok (.istore 5, 2) := by decide +kernel
theorem dL_law_915 : decode cL_law 915 = .ok (.aload_n 2, 1) := by decide +kernel
theorem dL_law_916 : decode cL_law 916 = .ok (.aload_n 0, 1) := by decide +kernel
theorem dL_law_917 : decode cL_law 917 = .ok (.iload 4, 2) := by decide +kernel
theorem dL_law_919 : decode cL_law 919 = .ok (.iconst 1, 1) := by decide +kernel
theorem dL_law_920 : decode cL_law 920 = .ok (.iadd, 1) := by decide +kernel
theorem dL_law_921 : decode cL_law 921 = .ok (.iaload, 1) := by decide +kernel
theorem dL_law_922 : decode cL_law 922 = .ok (.invokevirtual 150, 3) := by decide +kernel
theorem dL_law_925 : decode cL_law 925 = .ok (.istore 6, 2) := by decide +kernel
theorem dL_law_927 : decode cL_law 927 = .ok (.aload_n 2, 1) := by decide +kernel
theorem dL_law_928 : decode cL_law 928 = .ok (.invokevirtual 102, 3) := by decide +kernel
theorem dL_law_931 : decode cL_law 931 = .ok (.iload 5, 2) := by decide +kernel
theorem dL_law_933 : decode cL_law 933 = .ok (.if_icmp .eq 5, 3) := by decide +kernel
theorem dL_law_936 : decode cL_law 936 = .ok (.iconst 0, 1) := by decide +kernel
theorem dL_law_937 : decode cL_law 937 = .ok (.ireturn, 1) := by decide +kernel
theorem dL_law_938 : decode cL_law 938 = .ok (.iload 5, 2) := by decide +kernel
theorem dL_law_940 : decode cL_law 940 = .ok (.ifCond .ne 15, 3) := by decide +kernel
theorem dL_law_943 : decode cL_law 943 = .ok (.aload_n 3, 1) := by decide +kernel
theorem dL_law_944 : decode cL_law 944 = .ok (.iconst 0, 1) := by decide +kernel
theorem dL_law_945 : decode cL_law 945 = .ok (.laload, 1) := by decide +kernel
theorem dL_law_946 : decode cL_law 946 = .ok (.iload 6, 2) := by decide +kernel
theorem dL_law_948 : decode cL_law 948 = .ok (.i2l, 1) := by decide +kernel
theorem dL_law_949 : decode cL_law 949 = .ok (.lcmp, 1) := by decide +kernel
theorem dL_law_950 : decode cL_law 950 = .ok (.ifCond .eq 5, 3) := by decide +kernel
theorem dL_law_953 : decode cL_law 953 = .ok (.iconst 0, 1) := by decide +kernel
theorem dL_law_954 : decode cL_law 954 = .ok (.ireturn, 1) := by decide +kernel
theorem dL_law_955 : decode cL_law 955 = .ok (.goto 731, 3) := by decide +kernel
theorem dL_law_958 : decode cL_law 958 = .ok (.aload_n 1, 1) := by decide +kernel
theorem dL_law_959 : decode cL_law 959 = .ok (.aload_n 0, 1) := by decide +kernel
theorem dL_law_960 : decode cL_law 960 = .ok (.iload 4, 2) := by decide +kernel
theorem dL_law_962 : decode cL_law 962 = .ok (.iconst 1, 1) := by decide +kernel
theorem dL_law_963 : decode cL_law 963 = .ok (.iadd, 1) := by decide +kernel
theorem dL_law_964 : decode cL_law 964 = .ok (.iaload, 1) := by decide +kernel
theorem dL_law_965 : decode cL_law 965 = .ok (.aload_n 0, 1) := by decide +kernel
theorem dL_law_966 : decode cL_law 966 = .ok (.iload 4, 2) := by decide +kernel
theorem dL_law_968 : decode cL_law 968 = .ok (.iconst 2, 1) := by decide +kernel
theorem dL_law_969 : decode cL_law 969 = .ok (.iadd, 1) := by decide +kernel
theorem dL_law_970 : decode cL_law 970 = .ok (.iaload, 1) := by decide +kernel
theorem dL_law_971 : decode cL_law 971 = .ok (.aload_n 3, 1) := by decide +kernel
theorem dL_law_972 : decode cL_law 972 = .ok (.invokestatic 151, 3) := by decide +kernel
theorem dL_law_975 : decode cL_law 975 = .ok (.istore 5, 2) := by decide +kernel
theorem dL_law_977 : decode cL_law 977 = .ok (.aload_n 2, 1) := by decide +kernel
theorem dL_law_978 : decode cL_law 978 = .ok (.aload_n 0, 1) := by decide +kernel
theorem dL_law_979 : decode cL_law 979 = .ok (.iload 4, 2) := by decide +kernel
theorem dL_law_981 : decode cL_law 981 = .ok (.iconst 1, 1) := by decide +kernel
theorem dL_law_982 : decode cL_law 982 = .ok (.iadd, 1) := by decide +kernel
theorem dL_law_983 : decode cL_law 983 = .ok (.iaload, 1) := by decide +kernel
theorem dL_law_984 : decode cL_law 984 = .ok (.aload_n 0, 1) := by decide +kernel
theorem dL_law_985 : decode cL_law 985 = .ok (.iload 4, 2) := by decide +kernel
theorem dL_law_987 : decode cL_law 987 = .ok (.iconst 2, 1) := by decide +kernel
theorem dL_law_988 : decode cL_law 988 = .ok (.iadd, 1) := by decide +kernel
theorem dL_law_989 : decode cL_law 989 = .ok (.iaload, 1) := by decide +kernel
theorem dL_law_990 : decode cL_law 990 = .ok (.invokevirtual 153, 3) := by decide +kernel
theorem dL_law_993 : decode cL_law 993 = .ok (.istore 6, 2) := by decide +kernel
theorem dL_law_995 : decode cL_law 995 = .ok (.aload_n 2, 1) := by decide +kernel
theorem dL_law_996 : decode cL_law 996 = .ok (.invokevirtual 102, 3) := by decide +kernel
theorem dL_law_999 : decode cL_law 999 = .ok (.iload 5, 2) := by decide +kernel
theorem dL_law_1001 : decode cL_law 1001 = .ok (.if_icmp .eq 5, 3) := by decide +kernel
theorem dL_law_1004 : decode cL_law 1004 = .ok (.iconst 0, 1) := by decide +kernel
theorem dL_law_1005 : decode cL_law 1005 = .ok (.ireturn, 1) := by decide +kernel
theorem dL_law_1006 : decode cL_law 1006 = .ok (.iload 5, 2) := by decide +kernel
theorem dL_law_1008 : decode cL_law 1008 = .ok (.ifCond .ne 15, 3) := by decide +kernel
theorem dL_law_1011 : decode cL_law 1011 = .ok (.aload_n 3, 1) := by decide +kernel
theorem dL_law_1012 : decode cL_law 1012 = .ok (.iconst 0, 1) := by decide +kernel
theorem dL_law_1013 : decode cL_law 1013 = .ok (.laload, 1) := by decide +kernel
theorem dL_law_1014 : decode cL_law 1014 = .ok (.iload 6, 2) := by decide +kernel
theorem dL_law_1016 : decode cL_law 1016 = .ok (.i2l, 1) := by decide +kernel
theorem dL_law_1017 : decode cL_law 1017 = .ok (.lcmp, 1) := by decide +kernel
theorem dL_law_1018 : decode cL_law 1018 = .ok (.ifCond .eq 5, 3) := by decide +kernel
theorem dL_law_1021 : decode cL_law 1021 = .ok (.iconst 0, 1) := by decide +kernel
theorem dL_law_1022 : decode cL_law 1022 = .ok (.ireturn, 1) := by decide +kernel
theorem dL_law_1023 : decode cL_law 1023 = .ok (.goto 663, 3) := by decide +kernel
theorem dL_law_1026 : decode cL_law 1026 = .ok (.aload_n 1, 1) := by decide +kernel
theorem dL_law_1027 : decode cL_law 1027 = .ok (.aload_n 3, 1) := by decide +kernel
theorem dL_law_1028 : decode cL_law 1028 = .ok (.invokestatic 154, 3) := by decide +kernel
theorem dL_law_1031 : decode cL_law 1031 = .ok (.istore 5, 2) := by decide +kernel
theorem dL_law_1033 : decode cL_law 1033 = .ok (.aload_n 2, 1) := by decide +kernel
theorem dL_law_1034 : decode cL_law 1034 = .ok (.invokevirtual 156, 3) := by decide +kernel
theorem dL_law_1037 : decode cL_law 1037 = .ok (.istore 6, 2) := by decide +kernel
theorem dL_law_1039 : decode cL_law 1039 = .ok (.aload_n 2, 1) := by decide +kernel
theorem dL_law_1040 : decode cL_law 1040 = .ok (.invokevirtual 102, 3) := by decide +kernel
theorem dL_law_1043 : decode cL_law 1043 = .ok (.iload 5, 2) := by decide +kernel
theorem dL_law_1045 : decode cL_law 1045 = .ok (.if_icmp .eq 5, 3) := by decide +kernel
theorem dL_law_1048 : decode cL_law 1048 = .ok (.iconst 0, 1) := by decide +kernel
theorem dL_law_1049 : decode cL_law 1049 = .ok (.ireturn, 1) := by decide +kernel
theorem dL_law_1050 : decode cL_law 1050 = .ok (.iload 5, 2) := by decide +kernel
theorem dL_law_1052 : decode cL_law 1052 = .ok (.ifCond .ne 15, 3) := by decide +kernel
theorem dL_law_1055 : decode cL_law 1055 = .ok (.aload_n 3, 1) := by decide +kernel
theorem dL_law_1056 : decode cL_law 1056 = .ok (.iconst 0, 1) := by decide +kernel
theorem dL_law_1057 : decode cL_law 1057 = .ok (.laload, 1) := by decide +kernel
theorem dL_law_1058 : decode cL_law 1058 = .ok (.iload 6, 2) := by decide +kernel
theorem dL_law_1060 : decode cL_law 1060 = .ok (.i2l, 1) := by decide +kernel
theorem dL_law_1061 : decode cL_law 1061 = .ok (.lcmp, 1) := by decide +kernel
theorem dL_law_1062 : decode cL_law 1062 = .ok (.ifCond .eq 5, 3) := by decide +kernel
theorem dL_law_1065 : decode cL_law 1065 = .ok (.iconst 0, 1) := by decide +kernel
theorem dL_law_1066 : decode cL_law 1066 = .ok (.ireturn, 1) := by decide +kernel
theorem dL_law_1067 : decode cL_law 1067 = .ok (.goto 619, 3) := by decide +kernel
theorem dL_law_1070 : decode cL_law 1070 = .ok (.aload_n 1, 1) := by decide +kernel
theorem dL_law_1071 : decode cL_law 1071 = .ok (.aload_n 0, 1) := by decide +kernel
theorem dL_law_1072 : decode cL_law 1072 = .ok (.iload 4, 2) := by decide +kernel
theorem dL_law_1074 : decode cL_law 1074 = .ok (.iconst 1, 1) := by decide +kernel
theorem dL_law_1075 : decode cL_law 1075 = .ok (.iadd, 1) := by decide +kernel
theorem dL_law_1076 : decode cL_law 1076 = .ok (.iaload, 1) := by decide +kernel
theorem dL_law_1077 : decode cL_law 1077 = .ok (.aload_n 3, 1) := by decide +kernel
theorem dL_law_1078 : decode cL_law 1078 = .ok (.invokestatic 157, 3) := by decide +kernel
theorem dL_law_1081 : decode cL_law 1081 = .ok (.istore 5, 2) := by decide +kernel
theorem dL_law_1083 : decode cL_law 1083 = .ok (.aload_n 2, 1) := by decide +kernel
theorem dL_law_1084 : decode cL_law 1084 = .ok (.aload_n 0, 1) := by decide +kernel
theorem dL_law_1085 : decode cL_law 1085 = .ok (.iload 4, 2) := by decide +kernel
theorem dL_law_1087 : decode cL_law 1087 = .ok (.iconst 1, 1) := by decide +kernel
theorem dL_law_1088 : decode cL_law 1088 = .ok (.iadd, 1) := by decide +kernel
theorem dL_law_1089 : decode cL_law 1089 = .ok (.iaload, 1) := by decide +kernel
theorem dL_law_1090 : decode cL_law 1090 = .ok (.invokevirtual 159, 3) := by decide +kernel
theorem dL_law_1093 : decode cL_law 1093 = .ok (.istore 6, 2) := by decide +kernel
theorem dL_law_1095 : decode cL_law 1095 = .ok (.aload_n 2, 1) := by decide +kernel
theorem dL_law_1096 : decode cL_law 1096 = .ok (.invokevirtual 102, 3) := by decide +kernel
theorem dL_law_1099 : decode cL_law 1099 = .ok (.iload 5, 2) := by decide +kernel
theorem dL_law_1101 : decode cL_law 1101 = .ok (.if_icmp .eq 5, 3) := by decide +kernel
theorem dL_law_1104 : decode cL_law 1104 = .ok (.iconst 0, 1) := by decide +kernel
theorem dL_law_1105 : decode cL_law 1105 = .ok (.ireturn, 1) := by decide +kernel
theorem dL_law_1106 : decode cL_law 1106 = .ok (.iload 5, 2) := by decide +kernel
theorem dL_law_1108 : decode cL_law 1108 = .ok (.ifCond .ne 15, 3) := by decide +kernel
theorem dL_law_1111 : decode cL_law 1111 = .ok (.aload_n 3, 1) := by decide +kernel
theorem dL_law_1112 : decode cL_law 1112 = .ok (.iconst 0, 1) := by decide +kernel
theorem dL_law_1113 : decode cL_law 1113 = .ok (.laload, 1) := by decide +kernel
theorem dL_law_1114 : decode cL_law 1114 = .ok (.iload 6, 2) := by decide +kernel
theorem dL_law_1116 : decode cL_law 1116 = .ok (.i2l, 1) := by decide +kernel
theorem dL_law_1117 : decode cL_law 1117 = .ok (.lcmp, 1) := by decide +kernel
theorem dL_law_1118 : decode cL_law 1118 = .ok (.ifCond .eq 5, 3) := by decide +kernel
theorem dL_law_1121 : decode cL_law 1121 = .ok (.iconst 0, 1) := by decide +kernel
theorem dL_law_1122 : decode cL_law 1122 = .ok (.ireturn, 1) := by decide +kernel
theorem dL_law_1123 : decode cL_law 1123 = .ok (.goto 563, 3) := by decide +kernel
theorem dL_law_1126 : decode cL_law 1126 = .ok (.aload_n 1, 1) := by decide +kernel
theorem dL_law_1127 : decode cL_law 1127 = .ok (.aload_n 0, 1) := by decide +kernel
theorem dL_law_1128 : decode cL_law 1128 = .ok (.iload 4, 2) := by decide +kernel
theorem dL_law_1130 : decode cL_law 1130 = .ok (.iconst 1, 1) := by decide +kernel
theorem dL_law_1131 : decode cL_law 1131 = .ok (.iadd, 1) := by decide +kernel
theorem dL_law_1132 : decode cL_law 1132 = .ok (.iaload, 1) := by decide +kernel
theorem dL_law_1133 : decode cL_law 1133 = .ok (.aload_n 0, 1) := by decide +kernel
theorem dL_law_1134 : decode cL_law 1134 = .ok (.iload 4, 2) := by decide +kernel
theorem dL_law_1136 : decode cL_law 1136 = .ok (.iconst 2, 1) := by decide +kernel
theorem dL_law_1137 : decode cL_law 1137 = .ok (.iadd, 1) := by decide +kernel
theorem dL_law_1138 : decode cL_law 1138 = .ok (.iaload, 1) := by decide +kernel
theorem dL_law_1139 : decode cL_law 1139 = .ok (.aload_n 3, 1) := by decide +kernel
theorem dL_law_1140 : decode cL_law 1140 = .ok (.invokestatic 160, 3) := by decide +kernel
theorem dL_law_1143 : decode cL_law 1143 = .ok (.istore 5, 2) := by decide +kernel
theorem dL_law_1145 : decode cL_law 1145 = .ok (.aload_n 2, 1) := by decide +kernel
theorem dL_law_1146 : decode cL_law 1146 = .ok (.aload_n 0, 1) := by decide +kernel
theorem dL_law_1147 : decode cL_law 1147 = .ok (.iload 4, 2) := by decide +kernel
theorem dL_law_1149 : decode cL_law 1149 = .ok (.iconst 1, 1) := by decide +kernel
theorem dL_law_1150 : decode cL_law 1150 = .ok (.iadd, 1) := by decide +kernel
theorem dL_law_1151 : decode cL_law 1151 = .ok (.iaload, 1) := by decide +kernel
theorem dL_law_1152 : decode cL_law 1152 = .ok (.aload_n 0, 1) := by decide +kernel
theorem dL_law_1153 : decode cL_law 1153 = .ok (.iload 4, 2) := by decide +kernel
theorem dL_law_1155 : decode cL_law 1155 = .ok (.iconst 2, 1) := by decide +kernel
theorem dL_law_1156 : decode cL_law 1156 = .ok (.iadd, 1) := by decide +kernel
theorem dL_law_1157 : decode cL_law 1157 = .ok (.iaload, 1) := by decide +kernel
theorem dL_law_1158 : decode cL_law 1158 = .ok (.invokevirtual 162, 3) := by decide +kernel
theorem dL_law_1161 : decode cL_law 1161 = .ok (.istore 6, 2) := by decide +kernel
theorem dL_law_1163 : decode cL_law 1163 = .ok (.aload_n 2, 1) := by decide +kernel
theorem dL_law_1164 : decode cL_law 1164 = .ok (.invokevirtual 102, 3) := by decide +kernel
theorem dL_law_1167 : decode cL_law 1167 = .ok (.iload 5, 2) := by decide +kernel
theorem dL_law_1169 : decode cL_law 1169 = .ok (.if_icmp .eq 5, 3) := by decide +kernel
theorem dL_law_1172 : decode cL_law 1172 = .ok (.iconst 0, 1) := by decide +kernel
theorem dL_law_1173 : decode cL_law 1173 = .ok (.ireturn, 1) := by decide +kernel
theorem dL_law_1174 : decode cL_law 1174 = .ok (.iload 5, 2) := by decide +kernel
theorem dL_law_1176 : decode cL_law 1176 = .ok (.ifCond .ne 15, 3) := by decide +kernel
theorem dL_law_1179 : decode cL_law 1179 = .ok (.aload_n 3, 1) := by decide +kernel
theorem dL_law_1180 : decode cL_law 1180 = .ok (.iconst 0, 1) := by decide +kernel
theorem dL_law_1181 : decode cL_law 1181 = .ok (.laload, 1) := by decide +kernel
theorem dL_law_1182 : decode cL_law 1182 = .ok (.iload 6, 2) := by decide +kernel
theorem dL_law_1184 : decode cL_law 1184 = .ok (.i2l, 1) := by decide +kernel
theorem dL_law_1185 : decode cL_law 1185 = .ok (.lcmp, 1) := by decide +kernel
theorem dL_law_1186 : decode cL_law 1186 = .ok (.ifCond .eq 5, 3) := by decide +kernel
theorem dL_law_1189 : decode cL_law 1189 = .ok (.iconst 0, 1) := by decide +kernel
theorem dL_law_1190 : decode cL_law 1190 = .ok (.ireturn, 1) := by decide +kernel
theorem dL_law_1191 : decode cL_law 1191 = .ok (.goto 495, 3) := by decide +kernel
theorem dL_law_1194 : decode cL_law 1194 = .ok (.aload_n 1, 1) := by decide +kernel
theorem dL_law_1195 : decode cL_law 1195 = .ok (.aload_n 0, 1) := by decide +kernel
theorem dL_law_1196 : decode cL_law 1196 = .ok (.iload 4, 2) := by decide +kernel
theorem dL_law_1198 : decode cL_law 1198 = .ok (.iconst 1, 1) := by decide +kernel
theorem dL_law_1199 : decode cL_law 1199 = .ok (.iadd, 1) := by decide +kernel
theorem dL_law_1200 : decode cL_law 1200 = .ok (.iaload, 1) := by decide +kernel
theorem dL_law_1201 : decode cL_law 1201 = .ok (.aload_n 3, 1) := by decide +kernel
theorem dL_law_1202 : decode cL_law 1202 = .ok (.invokestatic 163, 3) := by decide +kernel
theorem dL_law_1205 : decode cL_law 1205 = .ok (.istore 5, 2) := by decide +kernel
theorem dL_law_1207 : decode cL_law 1207 = .ok (.aload_n 2, 1) := by decide +kernel
theorem dL_law_1208 : decode cL_law 1208 = .ok (.aload_n 0, 1) := by decide +kernel
theorem dL_law_1209 : decode cL_law 1209 = .ok (.iload 4, 2) := by decide +kernel
theorem dL_law_1211 : decode cL_law 1211 = .ok (.iconst 1, 1) := by decide +kernel
theorem dL_law_1212 : decode cL_law 1212 = .ok (.iadd, 1) := by decide +kernel
theorem dL_law_1213 : decode cL_law 1213 = .ok (.iaload, 1) := by decide +kernel
theorem dL_law_1214 : decode cL_law 1214 = .ok (.invokevirtual 165, 3) := by decide +kernel
theorem dL_law_1217 : decode cL_law 1217 = .ok (.istore 6, 2) := by decide +kernel
theorem dL_law_1219 : decode cL_law 1219 = .ok (.aload_n 2, 1) := by decide +kernel
theorem dL_law_1220 : decode cL_law 1220 = .ok (.invokevirtual 102, 3) := by decide +kernel
theorem dL_law_1223 : decode cL_law 1223 = .ok (.iload 5, 2) := by decide +kernel
theorem dL_law_1225 : decode cL_law 1225 = .ok (.if_icmp .eq 5, 3) := by decide +kernel
theorem dL_law_1228 : decode cL_law 1228 = .ok (.iconst 0, 1) := by decide +kernel
theorem dL_law_1229 : decode cL_law 1229 = .ok (.ireturn, 1) := by decide +kernel
theorem dL_law_1230 : decode cL_law 1230 = .ok (.iload 5, 2) := by decide +kernel
theorem dL_law_1232 : decode cL_law 1232 = .ok (.ifCond .ne 15, 3) := by decide +kernel
theorem dL_law_1235 : decode cL_law 1235 = .ok (.aload_n 3, 1) := by decide +kernel
theorem dL_law_1236 : decode cL_law 1236 = .ok (.iconst 0, 1) := by decide +kernel
theorem dL_law_1237 : decode cL_law 1237 = .ok (.laload, 1) := by decide +kernel
theorem dL_law_1238 : decode cL_law 1238 = .ok (.iload 6, 2) := by decide +kernel
theorem dL_law_1240 : decode cL_law 1240 = .ok (.i2l, 1) := by decide +kernel
theorem dL_law_1241 : decode cL_law 1241 = .ok (.lcmp, 1) := by decide +kernel
theorem dL_law_1242 : decode cL_law 1242 = .ok (.ifCond .eq 5, 3) := by decide +kernel
theorem dL_law_1245 : decode cL_law 1245 = .ok (.iconst 0, 1) := by decide +kernel
theorem dL_law_1246 : decode cL_law 1246 = .ok (.ireturn, 1) := by decide +kernel
theorem dL_law_1247 : decode cL_law 1247 = .ok (.goto 439, 3) := by decide +kernel
theorem dL_law_1250 : decode cL_law 1250 = .ok (.aload_n 1, 1) := by decide +kernel
theorem dL_law_1251 : decode cL_law 1251 = .ok (.aload_n 0, 1) := by decide +kernel
theorem dL_law_1252 : decode cL_law 1252 = .ok (.iload 4, 2) := by decide +kernel
theorem dL_law_1254 : decode cL_law 1254 = .ok (.iconst 1, 1) := by decide +kernel
theorem dL_law_1255 : decode cL_law 1255 = .ok (.iadd, 1) := by decide +kernel
theorem dL_law_1256 : decode cL_law 1256 = .ok (.iaload, 1) := by decide +kernel
theorem dL_law_1257 : decode cL_law 1257 = .ok (.aload_n 0, 1) := by decide +kernel
theorem dL_law_1258 : decode cL_law 1258 = .ok (.iload 4, 2) := by decide +kernel
theorem dL_law_1260 : decode cL_law 1260 = .ok (.iconst 2, 1) := by decide +kernel
theorem dL_law_1261 : decode cL_law 1261 = .ok (.iadd, 1) := by decide +kernel
theorem dL_law_1262 : decode cL_law 1262 = .ok (.iaload, 1) := by decide +kernel
theorem dL_law_1263 : decode cL_law 1263 = .ok (.aload_n 3, 1) := by decide +kernel
theorem dL_law_1264 : decode cL_law 1264 = .ok (.invokestatic 166, 3) := by decide +kernel
theorem dL_law_1267 : decode cL_law 1267 = .ok (.istore 5, 2) := by decide +kernel
theorem dL_law_1269 : decode cL_law 1269 = .ok (.aload_n 2, 1) := by decide +kernel
theorem dL_law_1270 : decode cL_law 1270 = .ok (.aload_n 0, 1) := by decide +kernel
theorem dL_law_1271 : decode cL_law 1271 = .ok (.iload 4, 2) := by decide +kernel
theorem dL_law_1273 : decode cL_law 1273 = .ok (.iconst 1, 1) := by decide +kernel
theorem dL_law_1274 : decode cL_law 1274 = .ok (.iadd, 1) := by decide +kernel
theorem dL_law_1275 : decode cL_law 1275 = .ok (.iaload, 1) := by decide +kernel
theorem dL_law_1276 : decode cL_law 1276 = .ok (.aload_n 0, 1) := by decide +kernel
theorem dL_law_1277 : decode cL_law 1277 = .ok (.iload 4, 2) := by decide +kernel
theorem dL_law_1279 : decode cL_law 1279 = .ok (.iconst 2, 1) := by decide +kernel
theorem dL_law_1280 : decode cL_law 1280 = .ok (.iadd, 1) := by decide +kernel
theorem dL_law_1281 : decode cL_law 1281 = .ok (.iaload, 1) := by decide +kernel
theorem dL_law_1282 : decode cL_law 1282 = .ok (.invokevirtual 168, 3) := by decide +kernel
theorem dL_law_1285 : decode cL_law 1285 = .ok (.istore 6, 2) := by decide +kernel
theorem dL_law_1287 : decode cL_law 1287 = .ok (.aload_n 2, 1) := by decide +kernel
theorem dL_law_1288 : decode cL_law 1288 = .ok (.invokevirtual 102, 3) := by decide +kernel
theorem dL_law_1291 : decode cL_law 1291 = .ok (.iload 5, 2) := by decide +kernel
theorem dL_law_1293 : decode cL_law 1293 = .ok (.if_icmp .eq 5, 3) := by decide +kernel
theorem dL_law_1296 : decode cL_law 1296 = .ok (.iconst 0, 1) := by decide +kernel
theorem dL_law_1297 : decode cL_law 1297 = .ok (.ireturn, 1) := by decide +kernel
theorem dL_law_1298 : decode cL_law 1298 = .ok (.iload 5, 2) := by decide +kernel
theorem dL_law_1300 : decode cL_law 1300 = .ok (.ifCond .ne 15, 3) := by decide +kernel
theorem dL_law_1303 : decode cL_law 1303 = .ok (.aload_n 3, 1) := by decide +kernel
theorem dL_law_1304 : decode cL_law 1304 = .ok (.iconst 0, 1) := by decide +kernel
theorem dL_law_1305 : decode cL_law 1305 = .ok (.laload, 1) := by decide +kernel
theorem dL_law_1306 : decode cL_law 1306 = .ok (.iload 6, 2) := by decide +kernel
theorem dL_law_1308 : decode cL_law 1308 = .ok (.i2l, 1) := by decide +kernel
theorem dL_law_1309 : decode cL_law 1309 = .ok (.lcmp, 1) := by decide +kernel
theorem dL_law_1310 : decode cL_law 1310 = .ok (.ifCond .eq 5, 3) := by decide +kernel
theorem dL_law_1313 : decode cL_law 1313 = .ok (.iconst 0, 1) := by decide +kernel
theorem dL_law_1314 : decode cL_law 1314 = .ok (.ireturn, 1) := by decide +kernel
theorem dL_law_1315 : decode cL_law 1315 = .ok (.goto 371, 3) := by decide +kernel
theorem dL_law_1318 : decode cL_law 1318 = .ok (.aload_n 1, 1) := by decide +kernel
theorem dL_law_1319 : decode cL_law 1319 = .ok (.aload_n 0, 1) := by decide +kernel
theorem dL_law_1320 : decode cL_law 1320 = .ok (.iload 4, 2) := by decide +kernel
theorem dL_law_1322 : decode cL_law 1322 = .ok (.iconst 1, 1) := by decide +kernel
theorem dL_law_1323 : decode cL_law 1323 = .ok (.iadd, 1) := by decide +kernel
theorem dL_law_1324 : decode cL_law 1324 = .ok (.iaload, 1) := by decide +kernel
theorem dL_law_1325 : decode cL_law 1325 = .ok (.aload_n 3, 1) := by decide +kernel
theorem dL_law_1326 : decode cL_law 1326 = .ok (.invokestatic 169, 3) := by decide +kernel
theorem dL_law_1329 : decode cL_law 1329 = .ok (.istore 5, 2) := by decide +kernel
theorem dL_law_1331 : decode cL_law 1331 = .ok (.aload_n 2, 1) := by decide +kernel
theorem dL_law_1332 : decode cL_law 1332 = .ok (.aload_n 0, 1) := by decide +kernel
theorem dL_law_1333 : decode cL_law 1333 = .ok (.iload 4, 2) := by decide +kernel
theorem dL_law_1335 : decode cL_law 1335 = .ok (.iconst 1, 1) := by decide +kernel
theorem dL_law_1336 : decode cL_law 1336 = .ok (.iadd, 1) := by decide +kernel
theorem dL_law_1337 : decode cL_law 1337 = .ok (.iaload, 1) := by decide +kernel
theorem dL_law_1338 : decode cL_law 1338 = .ok (.invokevirtual 171, 3) := by decide +kernel
theorem dL_law_1341 : decode cL_law 1341 = .ok (.istore 6, 2) := by decide +kernel
theorem dL_law_1343 : decode cL_law 1343 = .ok (.aload_n 2, 1) := by decide +kernel
theorem dL_law_1344 : decode cL_law 1344 = .ok (.invokevirtual 102, 3) := by decide +kernel
theorem dL_law_1347 : decode cL_law 1347 = .ok (.iload 5, 2) := by decide +kernel
theorem dL_law_1349 : decode cL_law 1349 = .ok (.if_icmp .eq 5, 3) := by decide +kernel
theorem dL_law_1352 : decode cL_law 1352 = .ok (.iconst 0, 1) := by decide +kernel
theorem dL_law_1353 : decode cL_law 1353 = .ok (.ireturn, 1) := by decide +kernel
theorem dL_law_1354 : decode cL_law 1354 = .ok (.iload 5, 2) := by decide +kernel
theorem dL_law_1356 : decode cL_law 1356 = .ok (.ifCond .ne 15, 3) := by decide +kernel
theorem dL_law_1359 : decode cL_law 1359 = .ok (.aload_n 3, 1) := by decide +kernel
theorem dL_law_1360 : decode cL_law 1360 = .ok (.iconst 0, 1) := by decide +kernel
theorem dL_law_1361 : decode cL_law 1361 = .ok (.laload, 1) := by decide +kernel
theorem dL_law_1362 : decode cL_law 1362 = .ok (.iload 6, 2) := by decide +kernel
theorem dL_law_1364 : decode cL_law 1364 = .ok (.i2l, 1) := by decide +kernel
theorem dL_law_1365 : decode cL_law 1365 = .ok (.lcmp, 1) := by decide +kernel
theorem dL_law_1366 : decode cL_law 1366 = .ok (.ifCond .eq 5, 3) := by decide +kernel
theorem dL_law_1369 : decode cL_law 1369 = .ok (.iconst 0, 1) := by decide +kernel
theorem dL_law_1370 : decode cL_law 1370 = .ok (.ireturn, 1) := by decide +kernel
theorem dL_law_1371 : decode cL_law 1371 = .ok (.goto 315, 3) := by decide +kernel
theorem dL_law_1374 : decode cL_law 1374 = .ok (.aload_n 1, 1) := by decide +kernel
theorem dL_law_1375 : decode cL_law 1375 = .ok (.aload_n 0, 1) := by decide +kernel
theorem dL_law_1376 : decode cL_law 1376 = .ok (.iload 4, 2) := by decide +kernel
theorem dL_law_1378 : decode cL_law 1378 = .ok (.iconst 1, 1) := by decide +kernel
theorem dL_law_1379 : decode cL_law 1379 = .ok (.iadd, 1) := by decide +kernel
theorem dL_law_1380 : decode cL_law 1380 = .ok (.iaload, 1) := by decide +kernel
theorem dL_law_1381 : decode cL_law 1381 = .ok (.aload_n 0, 1) := by decide +kernel
theorem dL_law_1382 : decode cL_law 1382 = .ok (.iload 4, 2) := by decide +kernel
theorem dL_law_1384 : decode cL_law 1384 = .ok (.iconst 2, 1) := by decide +kernel
theorem dL_law_1385 : decode cL_law 1385 = .ok (.iadd, 1) := by decide +kernel
theorem dL_law_1386 : decode cL_law 1386 = .ok (.iaload, 1) := by decide +kernel
theorem dL_law_1387 : decode cL_law 1387 = .ok (.i2l, 1) := by decide +kernel
theorem dL_law_1388 : decode cL_law 1388 = .ok (.bipush 32, 2) := by decide +kernel
theorem dL_law_1390 : decode cL_law 1390 = .ok (.lshl, 1) := by decide +kernel
theorem dL_law_1391 : decode cL_law 1391 = .ok (.aload_n 0, 1) := by decide +kernel
theorem dL_law_1392 : decode cL_law 1392 = .ok (.iload 4, 2) := by decide +kernel
theorem dL_law_1394 : decode cL_law 1394 = .ok (.iconst 3, 1) := by decide +kernel
theorem dL_law_1395 : decode cL_law 1395 = .ok (.iadd, 1) := by decide +kernel
theorem dL_law_1396 : decode cL_law 1396 = .ok (.iaload, 1) := by decide +kernel
theorem dL_law_1397 : decode cL_law 1397 = .ok (.i2l, 1) := by decide +kernel
theorem dL_law_1398 : decode cL_law 1398 = .ok (.ldc2_w 172, 3) := by decide +kernel
theorem dL_law_1401 : decode cL_law 1401 = .ok (.land, 1) := by decide +kernel
theorem dL_law_1402 : decode cL_law 1402 = .ok (.lor, 1) := by decide +kernel
theorem dL_law_1403 : decode cL_law 1403 = .ok (.aload_n 3, 1) := by decide +kernel
theorem dL_law_1404 : decode cL_law 1404 = .ok (.invokestatic 174, 3) := by decide +kernel
theorem dL_law_1407 : decode cL_law 1407 = .ok (.istore 5, 2) := by decide +kernel
theorem dL_law_1409 : decode cL_law 1409 = .ok (.aload_n 2, 1) := by decide +kernel
theorem dL_law_1410 : decode cL_law 1410 = .ok (.aload_n 0, 1) := by decide +kernel
theorem dL_law_1411 : decode cL_law 1411 = .ok (.iload 4, 2) := by decide +kernel
theorem dL_law_1413 : decode cL_law 1413 = .ok (.iconst 1, 1) := by decide +kernel
theorem dL_law_1414 : decode cL_law 1414 = .ok (.iadd, 1) := by decide +kernel
theorem dL_law_1415 : decode cL_law 1415 = .ok (.iaload, 1) := by decide +kernel
theorem dL_law_1416 : decode cL_law 1416 = .ok (.aload_n 0, 1) := by decide +kernel
theorem dL_law_1417 : decode cL_law 1417 = .ok (.iload 4, 2) := by decide +kernel
theorem dL_law_1419 : decode cL_law 1419 = .ok (.iconst 2, 1) := by decide +kernel
theorem dL_law_1420 : decode cL_law 1420 = .ok (.iadd, 1) := by decide +kernel
theorem dL_law_1421 : decode cL_law 1421 = .ok (.iaload, 1) := by decide +kernel
theorem dL_law_1422 : decode cL_law 1422 = .ok (.i2l, 1) := by decide +kernel
theorem dL_law_1423 : decode cL_law 1423 = .ok (.bipush 32, 2) := by decide +kernel
theorem dL_law_1425 : decode cL_law 1425 = .ok (.lshl, 1) := by decide +kernel
theorem dL_law_1426 : decode cL_law 1426 = .ok (.aload_n 0, 1) := by decide +kernel
theorem dL_law_1427 : decode cL_law 1427 = .ok (.iload 4, 2) := by decide +kernel
theorem dL_law_1429 : decode cL_law 1429 = .ok (.iconst 3, 1) := by decide +kernel
theorem dL_law_1430 : decode cL_law 1430 = .ok (.iadd, 1) := by decide +kernel
theorem dL_law_1431 : decode cL_law 1431 = .ok (.iaload, 1) := by decide +kernel
theorem dL_law_1432 : decode cL_law 1432 = .ok (.i2l, 1) := by decide +kernel
theorem dL_law_1433 : decode cL_law 1433 = .ok (.ldc2_w 172, 3) := by decide +kernel
theorem dL_law_1436 : decode cL_law 1436 = .ok (.land, 1) := by decide +kernel
theorem dL_law_1437 : decode cL_law 1437 = .ok (.lor, 1) := by decide +kernel
theorem dL_law_1438 : decode cL_law 1438 = .ok (.invokevirtual 177, 3) := by decide +kernel
theorem dL_law_1441 : decode cL_law 1441 = .ok (.istore 6, 2) := by decide +kernel
theorem dL_law_1443 : decode cL_law 1443 = .ok (.aload_n 2, 1) := by decide +kernel
theorem dL_law_1444 : decode cL_law 1444 = .ok (.invokevirtual 102, 3) := by decide +kernel
theorem dL_law_1447 : decode cL_law 1447 = .ok (.iload 5, 2) := by decide +kernel
theorem dL_law_1449 : decode cL_law 1449 = .ok (.if_icmp .eq 5, 3) := by decide +kernel
theorem dL_law_1452 : decode cL_law 1452 = .ok (.iconst 0, 1) := by decide +kernel
theorem dL_law_1453 : decode cL_law 1453 = .ok (.ireturn, 1) := by decide +kernel
theorem dL_law_1454 : decode cL_law 1454 = .ok (.iload 5, 2) := by decide +kernel
theorem dL_law_1456 : decode cL_law 1456 = .ok (.ifCond .ne 15, 3) := by decide +kernel
theorem dL_law_1459 : decode cL_law 1459 = .ok (.aload_n 3, 1) := by decide +kernel
theorem dL_law_1460 : decode cL_law 1460 = .ok (.iconst 0, 1) := by decide +kernel
theorem dL_law_1461 : decode cL_law 1461 = .ok (.laload, 1) := by decide +kernel
theorem dL_law_1462 : decode cL_law 1462 = .ok (.iload 6, 2) := by decide +kernel
theorem dL_law_1464 : decode cL_law 1464 = .ok (.i2l, 1) := by decide +kernel
theorem dL_law_1465 : decode cL_law 1465 = .ok (.lcmp, 1) := by decide +kernel
theorem dL_law_1466 : decode cL_law 1466 = .ok (.ifCond .eq 5, 3) := by decide +kernel
theorem dL_law_1469 : decode cL_law 1469 = .ok (.iconst 0, 1) := by decide +kernel
theorem dL_law_1470 : decode cL_law 1470 = .ok (.ireturn, 1) := by decide +kernel
theorem dL_law_1471 : decode cL_law 1471 = .ok (.goto 215, 3) := by decide +kernel
theorem dL_law_1474 : decode cL_law 1474 = .ok (.aload_n 1, 1) := by decide +kernel
theorem dL_law_1475 : decode cL_law 1475 = .ok (.aload_n 0, 1) := by decide +kernel
theorem dL_law_1476 : decode cL_law 1476 = .ok (.iload 4, 2) := by decide +kernel
theorem dL_law_1478 : decode cL_law 1478 = .ok (.iconst 1, 1) := by decide +kernel
theorem dL_law_1479 : decode cL_law 1479 = .ok (.iadd, 1) := by decide +kernel
theorem dL_law_1480 : decode cL_law 1480 = .ok (.iaload, 1) := by decide +kernel
theorem dL_law_1481 : decode cL_law 1481 = .ok (.i2l, 1) := by decide +kernel
theorem dL_law_1482 : decode cL_law 1482 = .ok (.bipush 32, 2) := by decide +kernel
theorem dL_law_1484 : decode cL_law 1484 = .ok (.lshl, 1) := by decide +kernel
theorem dL_law_1485 : decode cL_law 1485 = .ok (.aload_n 0, 1) := by decide +kernel
theorem dL_law_1486 : decode cL_law 1486 = .ok (.iload 4, 2) := by decide +kernel
theorem dL_law_1488 : decode cL_law 1488 = .ok (.iconst 2, 1) := by decide +kernel
theorem dL_law_1489 : decode cL_law 1489 = .ok (.iadd, 1) := by decide +kernel
theorem dL_law_1490 : decode cL_law 1490 = .ok (.iaload, 1) := by decide +kernel
theorem dL_law_1491 : decode cL_law 1491 = .ok (.i2l, 1) := by decide +kernel
theorem dL_law_1492 : decode cL_law 1492 = .ok (.ldc2_w 172, 3) := by decide +kernel
theorem dL_law_1495 : decode cL_law 1495 = .ok (.land, 1) := by decide +kernel
theorem dL_law_1496 : decode cL_law 1496 = .ok (.lor, 1) := by decide +kernel
theorem dL_law_1497 : decode cL_law 1497 = .ok (.aload_n 0, 1) := by decide +kernel
theorem dL_law_1498 : decode cL_law 1498 = .ok (.iload 4, 2) := by decide +kernel
theorem dL_law_1500 : decode cL_law 1500 = .ok (.iconst 3, 1) := by decide +kernel
theorem dL_law_1501 : decode cL_law 1501 = .ok (.iadd, 1) := by decide +kernel
theorem dL_law_1502 : decode cL_law 1502 = .ok (.iaload, 1) := by decide +kernel
theorem dL_law_1503 : decode cL_law 1503 = .ok (.aload_n 3, 1) := by decide +kernel
theorem dL_law_1504 : decode cL_law 1504 = .ok (.invokestatic 178, 3) := by decide +kernel
theorem dL_law_1507 : decode cL_law 1507 = .ok (.istore 5, 2) := by decide +kernel
theorem dL_law_1509 : decode cL_law 1509 = .ok (.aload_n 2, 1) := by decide +kernel
theorem dL_law_1510 : decode cL_law 1510 = .ok (.aload_n 0, 1) := by decide +kernel
theorem dL_law_1511 : decode cL_law 1511 = .ok (.iload 4, 2) := by decide +kernel
theorem dL_law_1513 : decode cL_law 1513 = .ok (.iconst 1, 1) := by decide +kernel
theorem dL_law_1514 : decode cL_law 1514 = .ok (.iadd, 1) := by decide +kernel
theorem dL_law_1515 : decode cL_law 1515 = .ok (.iaload, 1) := by decide +kernel
theorem dL_law_1516 : decode cL_law 1516 = .ok (.i2l, 1) := by decide +kernel
theorem dL_law_1517 : decode cL_law 1517 = .ok (.bipush 32, 2) := by decide +kernel
theorem dL_law_1519 : decode cL_law 1519 = .ok (.lshl, 1) := by decide +kernel
theorem dL_law_1520 : decode cL_law 1520 = .ok (.aload_n 0, 1) := by decide +kernel
theorem dL_law_1521 : decode cL_law 1521 = .ok (.iload 4, 2) := by decide +kernel
theorem dL_law_1523 : decode cL_law 1523 = .ok (.iconst 2, 1) := by decide +kernel
theorem dL_law_1524 : decode cL_law 1524 = .ok (.iadd, 1) := by decide +kernel
theorem dL_law_1525 : decode cL_law 1525 = .ok (.iaload, 1) := by decide +kernel
theorem dL_law_1526 : decode cL_law 1526 = .ok (.i2l, 1) := by decide +kernel
theorem dL_law_1527 : decode cL_law 1527 = .ok (.ldc2_w 172, 3) := by decide +kernel
theorem dL_law_1530 : decode cL_law 1530 = .ok (.land, 1) := by decide +kernel
theorem dL_law_1531 : decode cL_law 1531 = .ok (.lor, 1) := by decide +kernel
theorem dL_law_1532 : decode cL_law 1532 = .ok (.aload_n 0, 1) := by decide +kernel
theorem dL_law_1533 : decode cL_law 1533 = .ok (.iload 4, 2) := by decide +kernel
theorem dL_law_1535 : decode cL_law 1535 = .ok (.iconst 3, 1) := by decide +kernel
theorem dL_law_1536 : decode cL_law 1536 = .ok (.iadd, 1) := by decide +kernel
theorem dL_law_1537 : decode cL_law 1537 = .ok (.iaload, 1) := by decide +kernel
theorem dL_law_1538 : decode cL_law 1538 = .ok (.invokevirtual 181, 3) := by decide +kernel
theorem dL_law_1541 : decode cL_law 1541 = .ok (.istore 6, 2) := by decide +kernel
theorem dL_law_1543 : decode cL_law 1543 = .ok (.aload_n 2, 1) := by decide +kernel
theorem dL_law_1544 : decode cL_law 1544 = .ok (.invokevirtual 102, 3) := by decide +kernel
theorem dL_law_1547 : decode cL_law 1547 = .ok (.iload 5, 2) := by decide +kernel
theorem dL_law_1549 : decode cL_law 1549 = .ok (.if_icmp .eq 5, 3) := by decide +kernel
theorem dL_law_1552 : decode cL_law 1552 = .ok (.iconst 0, 1) := by decide +kernel
theorem dL_law_1553 : decode cL_law 1553 = .ok (.ireturn, 1) := by decide +kernel
theorem dL_law_1554 : decode cL_law 1554 = .ok (.iload 5, 2) := by decide +kernel
theorem dL_law_1556 : decode cL_law 1556 = .ok (.ifCond .ne 15, 3) := by decide +kernel
theorem dL_law_1559 : decode cL_law 1559 = .ok (.aload_n 3, 1) := by decide +kernel
theorem dL_law_1560 : decode cL_law 1560 = .ok (.iconst 0, 1) := by decide +kernel
theorem dL_law_1561 : decode cL_law 1561 = .ok (.laload, 1) := by decide +kernel
theorem dL_law_1562 : decode cL_law 1562 = .ok (.iload 6, 2) := by decide +kernel
theorem dL_law_1564 : decode cL_law 1564 = .ok (.i2l, 1) := by decide +kernel
theorem dL_law_1565 : decode cL_law 1565 = .ok (.lcmp, 1) := by decide +kernel
theorem dL_law_1566 : decode cL_law 1566 = .ok (.ifCond .eq 5, 3) := by decide +kernel
theorem dL_law_1569 : decode cL_law 1569 = .ok (.iconst 0, 1) := by decide +kernel
theorem dL_law_1570 : decode cL_law 1570 = .ok (.ireturn, 1) := by decide +kernel
theorem dL_law_1571 : decode cL_law 1571 = .ok (.goto 115, 3) := by decide +kernel
theorem dL_law_1574 : decode cL_law 1574 = .ok (.aload_n 1, 1) := by decide +kernel
theorem dL_law_1575 : decode cL_law 1575 = .ok (.aload_n 0, 1) := by decide +kernel
theorem dL_law_1576 : decode cL_law 1576 = .ok (.iload 4, 2) := by decide +kernel
theorem dL_law_1578 : decode cL_law 1578 = .ok (.iconst 1, 1) := by decide +kernel
theorem dL_law_1579 : decode cL_law 1579 = .ok (.iadd, 1) := by decide +kernel
theorem dL_law_1580 : decode cL_law 1580 = .ok (.iaload, 1) := by decide +kernel
theorem dL_law_1581 : decode cL_law 1581 = .ok (.aload_n 3, 1) := by decide +kernel
theorem dL_law_1582 : decode cL_law 1582 = .ok (.invokestatic 182, 3) := by decide +kernel
theorem dL_law_1585 : decode cL_law 1585 = .ok (.istore 5, 2) := by decide +kernel
theorem dL_law_1587 : decode cL_law 1587 = .ok (.aload_n 2, 1) := by decide +kernel
theorem dL_law_1588 : decode cL_law 1588 = .ok (.aload_n 0, 1) := by decide +kernel
theorem dL_law_1589 : decode cL_law 1589 = .ok (.iload 4, 2) := by decide +kernel
theorem dL_law_1591 : decode cL_law 1591 = .ok (.iconst 1, 1) := by decide +kernel
theorem dL_law_1592 : decode cL_law 1592 = .ok (.iadd, 1) := by decide +kernel
theorem dL_law_1593 : decode cL_law 1593 = .ok (.iaload, 1) := by decide +kernel
theorem dL_law_1594 : decode cL_law 1594 = .ok (.invokevirtual 184, 3) := by decide +kernel
theorem dL_law_1597 : decode cL_law 1597 = .ok (.istore 6, 2) := by decide +kernel
theorem dL_law_1599 : decode cL_law 1599 = .ok (.aload_n 2, 1) := by decide +kernel
theorem dL_law_1600 : decode cL_law 1600 = .ok (.invokevirtual 102, 3) := by decide +kernel
theorem dL_law_1603 : decode cL_law 1603 = .ok (.iload 5, 2) := by decide +kernel
theorem dL_law_1605 : decode cL_law 1605 = .ok (.if_icmp .eq 5, 3) := by decide +kernel
theorem dL_law_1608 : decode cL_law 1608 = .ok (.iconst 0, 1) := by decide +kernel
theorem dL_law_1609 : decode cL_law 1609 = .ok (.ireturn, 1) := by decide +kernel
theorem dL_law_1610 : decode cL_law 1610 = .ok (.iload 5, 2) := by decide +kernel
theorem dL_law_1612 : decode cL_law 1612 = .ok (.ifCond .ne 15, 3) := by decide +kernel
theorem dL_law_1615 : decode cL_law 1615 = .ok (.aload_n 3, 1) := by decide +kernel
theorem dL_law_1616 : decode cL_law 1616 = .ok (.iconst 0, 1) := by decide +kernel
theorem dL_law_1617 : decode cL_law 1617 = .ok (.laload, 1) := by decide +kernel
theorem dL_law_1618 : decode cL_law 1618 = .ok (.iload 6, 2) := by decide +kernel
theorem dL_law_1620 : decode cL_law 1620 = .ok (.i2l, 1) := by decide +kernel
theorem dL_law_1621 : decode cL_law 1621 = .ok (.lcmp, 1) := by decide +kernel
theorem dL_law_1622 : decode cL_law 1622 = .ok (.ifCond .eq 5, 3) := by decide +kernel
theorem dL_law_1625 : decode cL_law 1625 = .ok (.iconst 0, 1) := by decide +kernel
theorem dL_law_1626 : decode cL_law 1626 = .ok (.ireturn, 1) := by decide +kernel
theorem dL_law_1627 : decode cL_law 1627 = .ok (.goto 59, 3) := by decide +kernel
theorem dL_law_1630 : decode cL_law 1630 = .ok (.aload_n 1, 1) := by decide +kernel
theorem dL_law_1631 : decode cL_law 1631 = .ok (.aload_n 0, 1) := by decide +kernel
theorem dL_law_1632 : decode cL_law 1632 = .ok (.iload 4, 2) := by decide +kernel
theorem dL_law_1634 : decode cL_law 1634 = .ok (.iconst 1, 1) := by decide +kernel
theorem dL_law_1635 : decode cL_law 1635 = .ok (.iadd, 1) := by decide +kernel
theorem dL_law_1636 : decode cL_law 1636 = .ok (.iaload, 1) := by decide +kernel
theorem dL_law_1637 : decode cL_law 1637 = .ok (.aload_n 3, 1) := by decide +kernel
theorem dL_law_1638 : decode cL_law 1638 = .ok (.invokestatic 185, 3) := by decide +kernel
theorem dL_law_1641 : decode cL_law 1641 = .ok (.istore 5, 2) := by decide +kernel
theorem dL_law_1643 : decode cL_law 1643 = .ok (.aload_n 2, 1) := by decide +kernel
theorem dL_law_1644 : decode cL_law 1644 = .ok (.aload_n 0, 1) := by decide +kernel
theorem dL_law_1645 : decode cL_law 1645 = .ok (.iload 4, 2) := by decide +kernel
theorem dL_law_1647 : decode cL_law 1647 = .ok (.iconst 1, 1) := by decide +kernel
theorem dL_law_1648 : decode cL_law 1648 = .ok (.iadd, 1) := by decide +kernel
theorem dL_law_1649 : decode cL_law 1649 = .ok (.iaload, 1) := by decide +kernel
theorem dL_law_1650 : decode cL_law 1650 = .ok (.invokevirtual 187, 3) := by decide +kernel
theorem dL_law_1653 : decode cL_law 1653 = .ok (.istore 6, 2) := by decide +kernel
theorem dL_law_1655 : decode cL_law 1655 = .ok (.aload_n 2, 1) := by decide +kernel
theorem dL_law_1656 : decode cL_law 1656 = .ok (.invokevirtual 102, 3) := by decide +kernel
theorem dL_law_1659 : decode cL_law 1659 = .ok (.iload 5, 2) := by decide +kernel
theorem dL_law_1661 : decode cL_law 1661 = .ok (.if_icmp .eq 5, 3) := by decide +kernel
theorem dL_law_1664 : decode cL_law 1664 = .ok (.iconst 0, 1) := by decide +kernel
theorem dL_law_1665 : decode cL_law 1665 = .ok (.ireturn, 1) := by decide +kernel
theorem dL_law_1666 : decode cL_law 1666 = .ok (.iload 5, 2) := by decide +kernel
theorem dL_law_1668 : decode cL_law 1668 = .ok (.ifCond .ne 15, 3) := by decide +kernel
theorem dL_law_1671 : decode cL_law 1671 = .ok (.aload_n 3, 1) := by decide +kernel
theorem dL_law_1672 : decode cL_law 1672 = .ok (.iconst 0, 1) := by decide +kernel
theorem dL_law_1673 : decode cL_law 1673 = .ok (.laload, 1) := by decide +kernel
theorem dL_law_1674 : decode cL_law 1674 = .ok (.iload 6, 2) := by decide +kernel
theorem dL_law_1676 : decode cL_law 1676 = .ok (.i2l, 1) := by decide +kernel
theorem dL_law_1677 : decode cL_law 1677 = .ok (.lcmp, 1) := by decide +kernel
theorem dL_law_1678 : decode cL_law 1678 = .ok (.ifCond .eq 5, 3) := by decide +kernel
theorem dL_law_1681 : decode cL_law 1681 = .ok (.iconst 0, 1) := by decide +kernel
theorem dL_law_1682 : decode cL_law 1682 = .ok (.ireturn, 1) := by decide +kernel
theorem dL_law_1683 : decode cL_law 1683 = .ok (.goto 3, 3) := by decide +kernel
theorem dL_law_1686 : decode cL_law 1686 = .ok (.iinc 4 5, 3) := by decide +kernel
theorem dL_law_1689 : decode cL_law 1689 = .ok (.goto (-1666), 3) := by decide +kernel
theorem dL_law_1692 : decode cL_law 1692 = .ok (.iconst 1, 1) := by decide +kernel
theorem dL_law_1693 : decode cL_law 1693 = .ok (.ireturn, 1) := by decide +kernel
