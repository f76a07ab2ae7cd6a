theorem dX0_init_0 : decode cX0_init 0 = .ok (.aload_n 0, 1) := by decide +kernel
theorem dX0_init_1 : decode cX0_init 1 = .ok (.invokespecial 3, 3) := by decide +kernel
theorem dX0_init_4 : decode cX0_init 4 = .ok (.aload_n 0, 1) := by decide +kernel
theorem dX0_init_5 : decode cX0_init 5 = .ok (.iconst 3, 1) := by decide +kernel
theorem dX0_init_6 : decode cX0_init 6 = .ok (.anewarray 9, 3) := by decide +kernel
theorem dX0_init_9 : decode cX0_init 9 = .ok (.putfield 11, 3) := by decide +kernel
theorem dX0_init_12 : decode cX0_init 12 = .ok (.aload_n 0, 1) := by decide +kernel
theorem dX0_init_13 : decode cX0_init 13 = .ok (.iconst 3, 1) := by decide +kernel
theorem dX0_init_14 : decode cX0_init 14 = .ok (.newarray .int, 2) := by decide +kernel
theorem dX0_init_16 : decode cX0_init 16 = .ok (.putfield 17, 3) := by decide +kernel
theorem dX0_init_19 : decode cX0_init 19 = .ok (.iconst 0, 1) := by decide +kernel
theorem dX0_init_20 : decode cX0_init 20 = .ok (.istore_n 1, 1) := by decide +kernel
theorem dX0_init_21 : decode cX0_init 21 = .ok (.iload_n 1, 1) := by decide +kernel
theorem dX0_init_22 : decode cX0_init 22 = .ok (.iconst 3, 1) := by decide +kernel
theorem dX0_init_23 : decode cX0_init 23 = .ok (.if_icmp .ge 22, 3) := by decide +kernel
theorem dX0_init_26 : decode cX0_init 26 = .ok (.aload_n 0, 1) := by decide +kernel
theorem dX0_init_27 : decode cX0_init 27 = .ok (.getfield 11, 3) := by decide +kernel
theorem dX0_init_30 : decode cX0_init 30 = .ok (.iload_n 1, 1) := by decide +kernel
theorem dX0_init_31 : decode cX0_init 31 = .ok (.new 9, 3) := by decide +kernel
theorem dX0_init_34 : decode cX0_init 34 = .ok (.dup, 1) := by decide +kernel
theorem dX0_init_35 : decode cX0_init 35 = .ok (.invokespecial 21, 3) := by decide +kernel
theorem dX0_init_38 : decode cX0_init 38 = .ok (.aastore, 1) := by decide +kernel
theorem dX0_init_39 : decode cX0_init 39 = .ok (.iinc 1 1, 3) := by decide +kernel
theorem dX0_init_42 : decode cX0_init 42 = .ok (.goto (-21), 3) := by decide +kernel
theorem dX0_init_45 : decode cX0_init 45 = .ok (.aload_n 0, 1) := by decide +kernel
theorem dX0_init_46 : decode cX0_init 46 = .ok (.invokevirtual 22, 3) := by decide +kernel
theorem dX0_init_49 : decode cX0_init 49 = .ok (.return_, 1) := by decide +kernel
theorem dX0_clear_0 : decode cX0_clear 0 = .ok (.aload_n 0, 1) := by decide +kernel
theorem dX0_clear_1 : decode cX0_clear 1 = .ok (.iconst 0, 1) := by decide +kernel
theorem dX0_clear_2 : decode cX0_clear 2 = .ok (.putfield 25, 3) := by decide +kernel
theorem dX0_clear_5 : decode cX0_clear 5 = .ok (.aload_n 0, 1) := by decide +kernel
theorem dX0_clear_6 : decode cX0_clear 6 = .ok (.iconst 0, 1) := by decide +kernel
theorem dX0_clear_7 : decode cX0_clear 7 = .ok (.putfield 29, 3) := by decide +kernel
theorem dX0_clear_10 : decode cX0_clear 10 = .ok (.aload_n 0, 1) := by decide +kernel
theorem dX0_clear_11 : decode cX0_clear 11 = .ok (.getfield 17, 3) := by decide +kernel
theorem dX0_clear_14 : decode cX0_clear 14 = .ok (.iconst 0, 1) := by decide +kernel
theorem dX0_clear_15 : decode cX0_clear 15 = .ok (.iconst 3, 1) := by decide +kernel
theorem dX0_clear_16 : decode cX0_clear 16 = .ok (.iastore, 1) := by decide +kernel
theorem dX0_clear_17 : decode cX0_clear 17 = .ok (.aload_n 0, 1) := by decide +kernel
theorem dX0_clear_18 : decode cX0_clear 18 = .ok (.getfield 17, 3) := by decide +kernel
theorem dX0_clear_21 : decode cX0_clear 21 = .ok (.iconst 1, 1) := by decide +kernel
theorem dX0_clear_22 : decode cX0_clear 22 = .ok (.bipush 12, 2) := by decide +kernel
theorem dX0_clear_24 : decode cX0_clear 24 = .ok (.iastore, 1) := by decide +kernel
theorem dX0_clear_25 : decode cX0_clear 25 = .ok (.aload_n 0, 1) := by decide +kernel
theorem dX0_clear_26 : decode cX0_clear 26 = .ok (.getfield 17, 3) := by decide +kernel
theorem dX0_clear_29 : decode cX0_clear 29 = .ok (.iconst 2, 1) := by decide +kernel
theorem dX0_clear_30 : decode cX0_clear 30 = .ok (.iconst 2, 1) := by decide +kernel
theorem dX0_clear_31 : decode cX0_clear 31 = .ok (.iastore, 1) := by decide +kernel
theorem dX0_clear_32 : decode cX0_clear 32 = .ok (.return_, 1) := by decide +kernel
theorem dX0_copyFrom_0 : decode cX0_copyFrom 0 = .ok (.aload_n 0, 1) := by decide +kernel
theorem dX0_copyFrom_1 : decode cX0_copyFrom 1 = .ok (.aload_n 1, 1) := by decide +kernel
theorem dX0_copyFrom_2 : decode cX0_copyFrom 2 = .ok (.getfield 25, 3) := by decide +kernel
theorem dX0_copyFrom_5 : decode cX0_copyFrom 5 = .ok (.putfield 25, 3) := by decide +kernel
theorem dX0_copyFrom_8 : decode cX0_copyFrom 8 = .ok (.aload_n 0, 1) := by decide +kernel
theorem dX0_copyFrom_9 : decode cX0_copyFrom 9 = .ok (.aload_n 1, 1) := by decide +kernel
theorem dX0_copyFrom_10 : decode cX0_copyFrom 10 = .ok (.getfield 29, 3) := by decide +kernel
theorem dX0_copyFrom_13 : decode cX0_copyFrom 13 = .ok (.putfield 29, 3) := by decide +kernel
theorem dX0_copyFrom_16 : decode cX0_copyFrom 16 = .ok (.aload_n 1, 1) := by decide +kernel
theorem dX0_copyFrom_17 : decode cX0_copyFrom 17 = .ok (.getfield 17, 3) := by decide +kernel
theorem dX0_copyFrom_20 : decode cX0_copyFrom 20 = .ok (.iconst 0, 1) := by decide +kernel
theorem dX0_copyFrom_21 : decode cX0_copyFrom 21 = .ok (.aload_n 0, 1) := by decide +kernel
theorem dX0_copyFrom_22 : decode cX0_copyFrom 22 = .ok (.getfield 17, 3) := by decide +kernel
theorem dX0_copyFrom_25 : decode cX0_copyFrom 25 = .ok (.iconst 0, 1) := by decide +kernel
theorem dX0_copyFrom_26 : decode cX0_copyFrom 26 = .ok (.iconst 3, 1) := by decide +kernel
theorem dX0_copyFrom_27 : decode cX0_copyFrom 27 = .ok (.invokestatic 32, 3) := by decide +kernel
theorem dX0_copyFrom_30 : decode cX0_copyFrom 30 = .ok (.iconst 0, 1) := by decide +kernel
theorem dX0_copyFrom_31 : decode cX0_copyFrom 31 = .ok (.istore_n 2, 1) := by decide +kernel
theorem dX0_copyFrom_32 : decode cX0_copyFrom 32 = .ok (.iload_n 2, 1) := by decide +kernel
theorem dX0_copyFrom_33 : decode cX0_copyFrom 33 = .ok (.iconst 3, 1) := by decide +kernel
theorem dX0_copyFrom_34 : decode cX0_copyFrom 34 = .ok (.if_icmp .ge 24, 3) := by decide +kernel
theorem dX0_copyFrom_37 : decode cX0_copyFrom 37 = .ok (.aload_n 0, 1) := by decide +kernel
theorem dX0_copyFrom_38 : decode cX0_copyFrom 38 = .ok (.getfield 11, 3) := by decide +kernel
theorem dX0_copyFrom_41 : decode cX0_copyFrom 41 = .ok (.iload_n 2, 1) := by decide +kernel
theorem dX0_copyFrom_42 : decode cX0_copyFrom 42 = .ok (.aaload, 1) := by decide +kernel
theorem dX0_copyFrom_43 : decode cX0_copyFrom 43 = .ok (.aload_n 1, 1) := by decide +kernel
theorem dX0_copyFrom_44 : decode cX0_copyFrom 44 = .ok (.getfield 11, 3) := by decide +kernel
theorem dX0_copyFrom_47 : decode cX0_copyFrom 47 = .ok (.iload_n 2, 1) := by decide +kernel
theorem dX0_copyFrom_48 : decode cX0_copyFrom 48 = .ok (.aaload, 1) := by decide +kernel
theorem dX0_copyFrom_49 : decode cX0_copyFrom 49 = .ok (.invokevirtual 38, 3) := by decide +kernel
theorem dX0_copyFrom_52 : decode cX0_copyFrom 52 = .ok (.iinc 2 1, 3) := by decide +kernel
theorem dX0_copyFrom_55 : decode cX0_copyFrom 55 = .ok (.goto (-23), 3) := by decide +kernel
theorem dX0_copyFrom_58 : decode cX0_copyFrom 58 = .ok (.return_, 1) := by decide +kernel
theorem dX0_hasLane_0 : decode cX0_hasLane 0 = .ok (.iload_n 1, 1) := by decide +kernel
theorem dX0_hasLane_1 : decode cX0_hasLane 1 = .ok (.ifCond .lt 20, 3) := by decide +kernel
theorem dX0_hasLane_4 : decode cX0_hasLane 4 = .ok (.iload_n 1, 1) := by decide +kernel
theorem dX0_hasLane_5 : decode cX0_hasLane 5 = .ok (.aload_n 0, 1) := by decide +kernel
theorem dX0_hasLane_6 : decode cX0_hasLane 6 = .ok (.getfield 25, 3) := by decide +kernel
theorem dX0_hasLane_9 : decode cX0_hasLane 9 = .ok (.if_icmp .ge 12, 3) := by decide +kernel
theorem dX0_hasLane_12 : decode cX0_hasLane 12 = .ok (.iload_n 1, 1) := by decide +kernel
theorem dX0_hasLane_13 : decode cX0_hasLane 13 = .ok (.iconst 3, 1) := by decide +kernel
theorem dX0_hasLane_14 : decode cX0_hasLane 14 = .ok (.if_icmp .ge 7, 3) := by decide +kernel
theorem dX0_hasLane_17 : decode cX0_hasLane 17 = .ok (.iconst 1, 1) := by decide +kernel
theorem dX0_hasLane_18 : decode cX0_hasLane 18 = .ok (.goto 4, 3) := by decide +kernel
theorem dX0_hasLane_21 : decode cX0_hasLane 21 = .ok (.iconst 0, 1) := by decide +kernel
theorem dX0_hasLane_22 : decode cX0_hasLane 22 = .ok (.ireturn, 1) := by decide +kernel
theorem dX0_addLane_0 : decode cX0_addLane 0 = .ok (.aload_n 0, 1) := by decide +kernel
theorem dX0_addLane_1 : decode cX0_addLane 1 = .ok (.getfield 25, 3) := by decide +kernel
theorem dX0_addLane_4 : decode cX0_addLane 4 = .ok (.iconst 3, 1) := by decide +kernel
theorem dX0_addLane_5 : decode cX0_addLane 5 = .ok (.if_icmp .lt 5, 3) := by decide +kernel
theorem dX0_addLane_8 : decode cX0_addLane 8 = .ok (.iconst 0, 1) := by decide +kernel
theorem dX0_addLane_9 : decode cX0_addLane 9 = .ok (.ireturn, 1) := by decide +kernel
theorem dX0_addLane_10 : decode cX0_addLane 10 = .ok (.aload_n 0, 1) := by decide +kernel
theorem dX0_addLane_11 : decode cX0_addLane 11 = .ok (.getfield 11, 3) := by decide +kernel
theorem dX0_addLane_14 : decode cX0_addLane 14 = .ok (.aload_n 0, 1) := by decide +kernel
theorem dX0_addLane_15 : decode cX0_addLane 15 = .ok (.getfield 25, 3) := by decide +kernel
theorem dX0_addLane_18 : decode cX0_addLane 18 = .ok (.aaload, 1) := by decide +kernel
theorem dX0_addLane_19 : decode cX0_addLane 19 = .ok (.invokevirtual 42, 3) := by decide +kernel
theorem dX0_addLane_22 : decode cX0_addLane 22 = .ok (.aload_n 0, 1) := by decide +kernel
theorem dX0_addLane_23 : decode cX0_addLane 23 = .ok (.dup, 1) := by decide +kernel
theorem dX0_addLane_24 : decode cX0_addLane 24 = .ok (.getfield 25, 3) := by decide +kernel
theorem dX0_addLane_27 : decode cX0_addLane 27 = .ok (.iconst 1, 1) := by decide +kernel
theorem dX0_addLane_28 : decode cX0_addLane 28 = .ok (.iadd, 1) := by decide +kernel
theorem dX0_addLane_29 : decode cX0_addLane 29 = .ok (.putfield 25, 3) := by decide +kernel
theorem dX0_addLane_32 : decode cX0_addLane 32 = .ok (.iconst 1, 1) := by decide +kernel
theorem dX0_addLane_33 : decode cX0_addLane 33 = .ok (.ireturn, 1) := by decide +kernel
theorem dX0_addVehicle_0 : decode cX0_addVehicle 0 = .ok (.aload_n 0, 1) := by decide +kernel
theorem dX0_addVehicle_1 : decode cX0_addVehicle 1 = .ok (.iload_n 1, 1) := by decide +kernel
theorem dX0_addVehicle_2 : decode cX0_addVehicle 2 = .ok (.invokevirtual 43, 3) := by decide +kernel
theorem dX0_addVehicle_5 : decode cX0_addVehicle 5 = .ok (.ifCond .eq 14, 3) := by decide +kernel
theorem dX0_addVehicle_8 : decode cX0_addVehicle 8 = .ok (.iload_n 2, 1) := by decide +kernel
theorem dX0_addVehicle_9 : decode cX0_addVehicle 9 = .ok (.iconst 2, 1) := by decide +kernel
theorem dX0_addVehicle_10 : decode cX0_addVehicle 10 = .ok (.if_icmp .lt 9, 3) := by decide +kernel
theorem dX0_addVehicle_13 : decode cX0_addVehicle 13 = .ok (.iload_n 2, 1) := by decide +kernel
theorem dX0_addVehicle_14 : decode cX0_addVehicle 14 = .ok (.bipush 12, 2) := by decide +kernel
theorem dX0_addVehicle_16 : decode cX0_addVehicle 16 = .ok (.if_icmp .le 5, 3) := by decide +kernel
theorem dX0_addVehicle_19 : decode cX0_addVehicle 19 = .ok (.iconst 0, 1) := by decide +kernel
theorem dX0_addVehicle_20 : decode cX0_addVehicle 20 = .ok (.ireturn, 1) := by decide +kernel
theorem dX0_addVehicle_21 : decode cX0_addVehicle 21 = .ok (.aload_n 0, 1) := by decide +kernel
theorem dX0_addVehicle_22 : decode cX0_addVehicle 22 = .ok (.getfield 11, 3) := by decide +kernel
theorem dX0_addVehicle_25 : decode cX0_addVehicle 25 = .ok (.iload_n 1, 1) := by decide +kernel
theorem dX0_addVehicle_26 : decode cX0_addVehicle 26 = .ok (.aaload, 1) := by decide +kernel
theorem dX0_addVehicle_27 : decode cX0_addVehicle 27 = .ok (.iload_n 2, 1) := by decide +kernel
theorem dX0_addVehicle_28 : decode cX0_addVehicle 28 = .ok (.iload_n 3, 1) := by decide +kernel
theorem dX0_addVehicle_29 : decode cX0_addVehicle 29 = .ok (.iload 4, 2) := by decide +kernel
theorem dX0_addVehicle_31 : decode cX0_addVehicle 31 = .ok (.invokevirtual 47, 3) := by decide +kernel
theorem dX0_addVehicle_34 : decode cX0_addVehicle 34 = .ok (.ireturn, 1) := by decide +kernel
theorem dX0_changeLoop_0 : decode cX0_changeLoop 0 = .ok (.aload_n 0, 1) := by decide +kernel
theorem dX0_changeLoop_1 : decode cX0_changeLoop 1 = .ok (.iload_n 1, 1) := by decide +kernel
theorem dX0_changeLoop_2 : decode cX0_changeLoop 2 = .ok (.invokevirtual 43, 3) := by decide +kernel
theorem dX0_changeLoop_5 : decode cX0_changeLoop 5 = .ok (.ifCond .ne 5, 3) := by decide +kernel
theorem dX0_changeLoop_8 : decode cX0_changeLoop 8 = .ok (.iconst 0, 1) := by decide +kernel
theorem dX0_changeLoop_9 : decode cX0_changeLoop 9 = .ok (.ireturn, 1) := by decide +kernel
theorem dX0_changeLoop_10 : decode cX0_changeLoop 10 = .ok (.aload_n 0, 1) := by decide +kernel
theorem dX0_changeLoop_11 : decode cX0_changeLoop 11 = .ok (.getfield 11, 3) := by decide +kernel
theorem dX0_changeLoop_14 : decode cX0_changeLoop 14 = .ok (.iload_n 1, 1) := by decide +kernel
theorem dX0_changeLoop_15 : decode cX0_changeLoop 15 = .ok (.aaload, 1) := by decide +kernel
theorem dX0_changeLoop_16 : decode cX0_changeLoop 16 = .ok (.iload_n 2, 1) := by decide +kernel
theorem dX0_changeLoop_17 : decode cX0_changeLoop 17 = .ok (.putfield 51, 3) := by decide +kernel
theorem dX0_changeLoop_20 : decode cX0_changeLoop 20 = .ok (.iconst 1, 1) := by decide +kernel
theorem dX0_changeLoop_21 : decode cX0_changeLoop 21 = .ok (.ireturn, 1) := by decide +kernel
theorem dX0_mendArm_0 : decode cX0_mendArm 0 = .ok (.aload_n 0, 1) := by decide +kernel
theorem dX0_mendArm_1 : decode cX0_mendArm 1 = .ok (.iload_n 1, 1) := by decide +kernel
theorem dX0_mendArm_2 : decode cX0_mendArm 2 = .ok (.invokevirtual 43, 3) := by decide +kernel
theorem dX0_mendArm_5 : decode cX0_mendArm 5 = .ok (.ifCond .eq 15, 3) := by decide +kernel
theorem dX0_mendArm_8 : decode cX0_mendArm 8 = .ok (.aload_n 0, 1) := by decide +kernel
theorem dX0_mendArm_9 : decode cX0_mendArm 9 = .ok (.getfield 11, 3) := by decide +kernel
theorem dX0_mendArm_12 : decode cX0_mendArm 12 = .ok (.iload_n 1, 1) := by decide +kernel
theorem dX0_mendArm_13 : decode cX0_mendArm 13 = .ok (.aaload, 1) := by decide +kernel
theorem dX0_mendArm_14 : decode cX0_mendArm 14 = .ok (.invokevirtual 55, 3) := by decide +kernel
theorem dX0_mendArm_17 : decode cX0_mendArm 17 = .ok (.ifCond .ne 5, 3) := by decide +kernel
theorem dX0_mendArm_20 : decode cX0_mendArm 20 = .ok (.iconst 0, 1) := by decide +kernel
theorem dX0_mendArm_21 : decode cX0_mendArm 21 = .ok (.ireturn, 1) := by decide +kernel
theorem dX0_mendArm_22 : decode cX0_mendArm 22 = .ok (.aload_n 0, 1) := by decide +kernel
theorem dX0_mendArm_23 : decode cX0_mendArm 23 = .ok (.getfield 11, 3) := by decide +kernel
theorem dX0_mendArm_26 : decode cX0_mendArm 26 = .ok (.iload_n 1, 1) := by decide +kernel
theorem dX0_mendArm_27 : decode cX0_mendArm 27 = .ok (.aaload, 1) := by decide +kernel
theorem dX0_mendArm_28 : decode cX0_mendArm 28 = .ok (.iconst 0, 1) := by decide +kernel
theorem dX0_mendArm_29 : decode cX0_mendArm 29 = .ok (.putfield 59, 3) := by decide +kernel
theorem dX0_mendArm_32 : decode cX0_mendArm 32 = .ok (.iconst 1, 1) := by decide +kernel
theorem dX0_mendArm_33 : decode cX0_mendArm 33 = .ok (.ireturn, 1) := by decide +kernel
theorem dX0_letTicksGo_0 : decode cX0_letTicksGo 0 = .ok (.iload_n 1, 1) := by decide +kernel
theorem dX0_letTicksGo_1 : decode cX0_letTicksGo 1 = .ok (.iconst 1, 1) := by decide +kernel
theorem dX0_letTicksGo_2 : decode cX0_letTicksGo 2 = .ok (.if_icmp .lt 9, 3) := by decide +kernel
theorem dX0_letTicksGo_5 : decode cX0_letTicksGo 5 = .ok (.iload_n 1, 1) := by decide +kernel
theorem dX0_letTicksGo_6 : decode cX0_letTicksGo 6 = .ok (.bipush 60, 2) := by decide +kernel
theorem dX0_letTicksGo_8 : decode cX0_letTicksGo 8 = .ok (.if_icmp .le 5, 3) := by decide +kernel
theorem dX0_letTicksGo_11 : decode cX0_letTicksGo 11 = .ok (.iconst 0, 1) := by decide +kernel
theorem dX0_letTicksGo_12 : decode cX0_letTicksGo 12 = .ok (.ireturn, 1) := by decide +kernel
theorem dX0_letTicksGo_13 : decode cX0_letTicksGo 13 = .ok (.iconst 0, 1) := by decide +kernel
theorem dX0_letTicksGo_14 : decode cX0_letTicksGo 14 = .ok (.istore_n 2, 1) := by decide +kernel
theorem dX0_letTicksGo_15 : decode cX0_letTicksGo 15 = .ok (.iload_n 2, 1) := by decide +kernel
theorem dX0_letTicksGo_16 : decode cX0_letTicksGo 16 = .ok (.iload_n 1, 1) := by decide +kernel
theorem dX0_letTicksGo_17 : decode cX0_letTicksGo 17 = .ok (.if_icmp .ge 48, 3) := by decide +kernel
theorem dX0_letTicksGo_20 : decode cX0_letTicksGo 20 = .ok (.aload_n 0, 1) := by decide +kernel
theorem dX0_letTicksGo_21 : decode cX0_letTicksGo 21 = .ok (.dup, 1) := by decide +kernel
theorem dX0_letTicksGo_22 : decode cX0_letTicksGo 22 = .ok (.getfield 29, 3) := by decide +kernel
theorem dX0_letTicksGo_25 : decode cX0_letTicksGo 25 = .ok (.iconst 1, 1) := by decide +kernel
theorem dX0_letTicksGo_26 : decode cX0_letTicksGo 26 = .ok (.iadd, 1) := by decide +kernel
theorem dX0_letTicksGo_27 : decode cX0_letTicksGo 27 = .ok (.putfield 29, 3) := by decide +kernel
theorem dX0_letTicksGo_30 : decode cX0_letTicksGo 30 = .ok (.iconst 0, 1) := by decide +kernel
theorem dX0_letTicksGo_31 : decode cX0_letTicksGo 31 = .ok (.istore_n 3, 1) := by decide +kernel
theorem dX0_letTicksGo_32 : decode cX0_letTicksGo 32 = .ok (.iload_n 3, 1) := by decide +kernel
theorem dX0_letTicksGo_33 : decode cX0_letTicksGo 33 = .ok (.aload_n 0, 1) := by decide +kernel
theorem dX0_letTicksGo_34 : decode cX0_letTicksGo 34 = .ok (.getfield 25, 3) := by decide +kernel
theorem dX0_letTicksGo_37 : decode cX0_letTicksGo 37 = .ok (.if_icmp .ge 22, 3) := by decide +kernel
theorem dX0_letTicksGo_40 : decode cX0_letTicksGo 40 = .ok (.aload_n 0, 1) := by decide +kernel
theorem dX0_letTicksGo_41 : decode cX0_letTicksGo 41 = .ok (.getfield 11, 3) := by decide +kernel
theorem dX0_letTicksGo_44 : decode cX0_letTicksGo 44 = .ok (.iload_n 3, 1) := by decide +kernel
theorem dX0_letTicksGo_45 : decode cX0_letTicksGo 45 = .ok (.aaload, 1) := by decide +kernel
theorem dX0_letTicksGo_46 : decode cX0_letTicksGo 46 = .ok (.aload_n 0, 1) := by decide +kernel
theorem dX0_letTicksGo_47 : decode cX0_letTicksGo 47 = .ok (.getfield 17, 3) := by decide +kernel
theorem dX0_letTicksGo_50 : decode cX0_letTicksGo 50 = .ok (.invokevirtual 62, 3) := by decide +kernel
theorem dX0_letTicksGo_53 : decode cX0_letTicksGo 53 = .ok (.iinc 3 1, 3) := by decide +kernel
theorem dX0_letTicksGo_56 : decode cX0_letTicksGo 56 = .ok (.goto (-24), 3) := by decide +kernel
theorem dX0_letTicksGo_59 : decode cX0_letTicksGo 59 = .ok (.iinc 2 1, 3) := by decide +kernel
theorem dX0_letTicksGo_62 : decode cX0_letTicksGo 62 = .ok (.goto (-47), 3) := by decide +kernel
theorem dX0_letTicksGo_65 : decode cX0_letTicksGo 65 = .ok (.iconst 1, 1) := by decide +kernel
theorem dX0_letTicksGo_66 : decode cX0_letTicksGo 66 = .ok (.ireturn, 1) := by decide +kernel
theorem dX0_changeSetting_0 : decode cX0_changeSetting 0 = .ok (.iload_n 1, 1) := by decide +kernel
theorem dX0_changeSetting_1 : decode cX0_changeSetting 1 = .ok (.iload_n 2, 1) := by decide +kernel
theorem dX0_changeSetting_2 : decode cX0_changeSetting 2 = .ok (.invokestatic 66, 3) := by decide +kernel
theorem dX0_changeSetting_5 : decode cX0_changeSetting 5 = .ok (.ifCond .ne 5, 3) := by decide +kernel
theorem dX0_changeSetting_8 : decode cX0_changeSetting 8 = .ok (.iconst 0, 1) := by decide +kernel
theorem dX0_changeSetting_9 : decode cX0_changeSetting 9 = .ok (.ireturn, 1) := by decide +kernel
theorem dX0_changeSetting_10 : decode cX0_changeSetting 10 = .ok (.aload_n 0, 1) := by decide +kernel
theorem dX0_changeSetting_11 : decode cX0_changeSetting 11 = .ok (.getfield 17, 3) := by decide +kernel
theorem dX0_changeSetting_14 : decode cX0_changeSetting 14 = .ok (.iload_n 1, 1) := by decide +kernel
theorem dX0_changeSetting_15 : decode cX0_changeSetting 15 = .ok (.iload_n 2, 1) := by decide +kernel
theorem dX0_changeSetting_16 : decode cX0_changeSetting 16 = .ok (.iastore, 1) := by decide +kernel
theorem dX0_changeSetting_17 : decode cX0_changeSetting 17 = .ok (.iconst 1, 1) := by decide +kernel
theorem dX0_changeSetting_18 : decode cX0_changeSetting 18 = .ok (.ireturn, 1) := by decide +kernel
theorem dX0_total_0 : decode cX0_total 0 = .ok (.iconst 0, 1) := by decide +kernel
theorem dX0_total_1 : decode cX0_total 1 = .ok (.istore_n 2, 1) := by decide +kernel
theorem dX0_total_2 : decode cX0_total 2 = .ok (.iconst 0, 1) := by decide +kernel
theorem dX0_total_3 : decode cX0_total 3 = .ok (.istore_n 3, 1) := by decide +kernel
theorem dX0_total_4 : decode cX0_total 4 = .ok (.iload_n 3, 1) := by decide +kernel
theorem dX0_total_5 : decode cX0_total 5 = .ok (.aload_n 0, 1) := by decide +kernel
theorem dX0_total_6 : decode cX0_total 6 = .ok (.getfield 25, 3) := by decide +kernel
theorem dX0_total_9 : decode cX0_total 9 = .ok (.if_icmp .ge 22, 3) := by decide +kernel
theorem dX0_total_12 : decode cX0_total 12 = .ok (.iload_n 2, 1) := by decide +kernel
theorem dX0_total_13 : decode cX0_total 13 = .ok (.aload_n 0, 1) := by decide +kernel
theorem dX0_total_14 : decode cX0_total 14 = .ok (.getfield 11, 3) := by decide +kernel
theorem dX0_total_17 : decode cX0_total 17 = .ok (.iload_n 3, 1) := by decide +kernel
theorem dX0_total_18 : decode cX0_total 18 = .ok (.aaload, 1) := by decide +kernel
theorem dX0_total_19 : decode cX0_total 19 = .ok (.iload_n 1, 1) := by decide +kernel
theorem dX0_total_20 : decode cX0_total 20 = .ok (.invokevirtual 70, 3) := by decide +kernel
theorem dX0_total_23 : decode cX0_total 23 = .ok (.iadd, 1) := by decide +kernel
theorem dX0_total_24 : decode cX0_total 24 = .ok (.istore_n 2, 1) := by decide +kernel
theorem dX0_total_25 : decode cX0_total 25 = .ok (.iinc 3 1, 3) := by decide +kernel
theorem dX0_total_28 : decode cX0_total 28 = .ok (.goto (-24), 3) := by decide +kernel
theorem dX0_total_31 : decode cX0_total 31 = .ok (.iload_n 2, 1) := by decide +kernel
theorem dX0_total_32 : decode cX0_total 32 = .ok (.ireturn, 1) := by decide +kernel
theorem dX0_armsUp_0 : decode cX0_armsUp 0 = .ok (.iconst 0, 1) := by decide +kernel
theorem dX0_armsUp_1 : decode cX0_armsUp 1 = .ok (.istore_n 1, 1) := by decide +kernel
theorem dX0_armsUp_2 : decode cX0_armsUp 2 = .ok (.iconst 0, 1) := by decide +kernel
theorem dX0_armsUp_3 : decode cX0_armsUp 3 = .ok (.istore_n 2, 1) := by decide +kernel
theorem dX0_armsUp_4 : decode cX0_armsUp 4 = .ok (.iload_n 2, 1) := by decide +kernel
theorem dX0_armsUp_5 : decode cX0_armsUp 5 = .ok (.aload_n 0, 1) := by decide +kernel
theorem dX0_armsUp_6 : decode cX0_armsUp 6 = .ok (.getfield 25, 3) := by decide +kernel
theorem dX0_armsUp_9 : decode cX0_armsUp 9 = .ok (.if_icmp .ge 25, 3) := by decide +kernel
theorem dX0_armsUp_12 : decode cX0_armsUp 12 = .ok (.aload_n 0, 1) := by decide +kernel
theorem dX0_armsUp_13 : decode cX0_armsUp 13 = .ok (.getfield 11, 3) := by decide +kernel
theorem dX0_armsUp_16 : decode cX0_armsUp 16 = .ok (.iload_n 2, 1) := by decide +kernel
theorem dX0_armsUp_17 : decode cX0_armsUp 17 = .ok (.aaload, 1) := by decide +kernel
theorem dX0_armsUp_18 : decode cX0_armsUp 18 = .ok (.getfield 74, 3) := by decide +kernel
theorem dX0_armsUp_21 : decode cX0_armsUp 21 = .ok (.iconst 4, 1) := by decide +kernel
theorem dX0_armsUp_22 : decode cX0_armsUp 22 = .ok (.if_icmp .ne 6, 3) := by decide +kernel
theorem dX0_armsUp_25 : decode cX0_armsUp 25 = .ok (.iinc 1 1, 3) := by decide +kernel
theorem dX0_armsUp_28 : decode cX0_armsUp 28 = .ok (.iinc 2 1, 3) := by decide +kernel
theorem dX0_armsUp_31 : decode cX0_armsUp 31 = .ok (.goto (-27), 3) := by decide +kernel
theorem dX0_armsUp_34 : decode cX0_armsUp 34 = .ok (.iload_n 1, 1) := by decide +kernel
theorem dX0_armsUp_35 : decode cX0_armsUp 35 = .ok (.ireturn, 1) := by decide +kernel
theorem dX1_init_0 : decode cX1_init 0 = .ok (.aload_n 0, 1) := by decide +kernel
theorem dX1_init_1 : decode cX1_init 1 = .ok (.invokespecial 3, 3) := by decide +kernel
theorem dX1_init_4 : decode cX1_init 4 = .ok (.aload_n 0, 1) := by decide +kernel
theorem dX1_init_5 : decode cX1_init 5 = .ok (.bipush 6, 2) := by decide +kernel
theorem dX1_init_7 : decode cX1_init 7 = .ok (.newarray .int, 2) := by decide +kernel
theorem dX1_init_9 : decode cX1_init 9 = .ok (.putfield 9, 3) := by decide +kernel
theorem dX1_init_12 : decode cX1_init 12 = .ok (.aload_n 0, 1) := by decide +kernel
theorem dX1_init_13 : decode cX1_init 13 = .ok (.bipush 6, 2) := by decide +kernel
theorem dX1_init_15 : decode cX1_init 15 = .ok (.newarray .int, 2) := by decide +kernel
theorem dX1_init_17 : decode cX1_init 17 = .ok (.putfield 15, 3) := by decide +kernel
theorem dX1_init_20 : decode cX1_init 20 = .ok (.aload_n 0, 1) := by decide +kernel
theorem dX1_init_21 : decode cX1_init 21 = .ok (.bipush 6, 2) := by decide +kernel
theorem dX1_init_23 : decode cX1_init 23 = .ok (.newarray .boolean, 2) := by decide +kernel
theorem dX1_init_25 : decode cX1_init 25 = .ok (.putfield 18, 3) := by decide +kernel
theorem dX1_init_28 : decode cX1_init 28 = .ok (.aload_n 0, 1) := by decide +kernel
theorem dX1_init_29 : decode cX1_init 29 = .ok (.bipush 6, 2) := by decide +kernel
theorem dX1_init_31 : decode cX1_init 31 = .ok (.newarray .boolean, 2) := by decide +kernel
theorem dX1_init_33 : decode cX1_init 33 = .ok (.putfield 22, 3) := by decide +kernel
theorem dX1_init_36 : decode cX1_init 36 = .ok (.aload_n 0, 1) := by decide +kernel
theorem dX1_init_37 : decode cX1_init 37 = .ok (.bipush 6, 2) := by decide +kernel
theorem dX1_init_39 : decode cX1_init 39 = .ok (.newarray .boolean, 2) := by decide +kernel
theorem dX1_init_41 : decode cX1_init 41 = .ok (.putfield 25, 3) := by decide +kernel
theorem dX1_init_44 : decode cX1_init 44 = .ok (.aload_n 0, 1) := by decide +kernel
theorem dX1_init_45 : decode cX1_init 45 = .ok (.invokevirtual 28, 3) := by decide +kernel
theorem dX1_init_48 : decode cX1_init 48 = .ok (.return_, 1) := by decide +kernel
theorem dX1_clear_0 : decode cX1_clear 0 = .ok (.aload_n 0, 1) := by decide +kernel
theorem dX1_clear_1 : decode cX1_clear 1 = .ok (.iconst 0, 1) := by decide +kernel
theorem dX1_clear_2 : decode cX1_clear 2 = .ok (.putfield 31, 3) := by decide +kernel
theorem dX1_clear_5 : decode cX1_clear 5 = .ok (.aload_n 0, 1) := by decide +kernel
theorem dX1_clear_6 : decode cX1_clear 6 = .ok (.iconst 0, 1) := by decide +kernel
theorem dX1_clear_7 : decode cX1_clear 7 = .ok (.putfield 35, 3) := by decide +kernel
theorem dX1_clear_10 : decode cX1_clear 10 = .ok (.aload_n 0, 1) := by decide +kernel
theorem dX1_clear_11 : decode cX1_clear 11 = .ok (.iconst 0, 1) := by decide +kernel
theorem dX1_clear_12 : decode cX1_clear 12 = .ok (.putfield 38, 3) := by decide +kernel
theorem dX1_clear_15 : decode cX1_clear 15 = .ok (.aload_n 0, 1) := by decide +kernel
theorem dX1_clear_16 : decode cX1_clear 16 = .ok (.bipush 48, 2) := by decide +kernel
theorem dX1_clear_18 : decode cX1_clear 18 = .ok (.putfield 41, 3) := by decide +kernel
theorem dX1_clear_21 : decode cX1_clear 21 = .ok (.aload_n 0, 1) := by decide +kernel
theorem dX1_clear_22 : decode cX1_clear 22 = .ok (.iconst 0, 1) := by decide +kernel
theorem dX1_clear_23 : decode cX1_clear 23 = .ok (.putfield 44, 3) := by decide +kernel
theorem dX1_clear_26 : decode cX1_clear 26 = .ok (.aload_n 0, 1) := by decide +kernel
theorem dX1_clear_27 : decode cX1_clear 27 = .ok (.iconst 0, 1) := by decide +kernel
theorem dX1_clear_28 : decode cX1_clear 28 = .ok (.putfield 47, 3) := by decide +kernel
theorem dX1_clear_31 : decode cX1_clear 31 = .ok (.aload_n 0, 1) := by decide +kernel
theorem dX1_clear_32 : decode cX1_clear 32 = .ok (.iconst 0, 1) := by decide +kernel
theorem dX1_clear_33 : decode cX1_clear 33 = .ok (.putfield 51, 3) := by decide +kernel
theorem dX1_clear_36 : decode cX1_clear 36 = .ok (.aload_n 0, 1) := by decide +kernel
theorem dX1_clear_37 : decode cX1_clear 37 = .ok (.iconst 0, 1) := by decide +kernel
theorem dX1_clear_38 : decode cX1_clear 38 = .ok (.putfield 54, 3) := by decide +kernel
theorem dX1_clear_41 : decode cX1_clear 41 = .ok (.aload_n 0, 1) := by decide +kernel
theorem dX1_clear_42 : decode cX1_clear 42 = .ok (.iconst 0, 1) := by decide +kernel
theorem dX1_clear_43 : decode cX1_clear 43 = .ok (.putfield 57, 3) := by decide +kernel
theorem dX1_clear_46 : decode cX1_clear 46 = .ok (.aload_n 0, 1) := by decide +kernel
theorem dX1_clear_47 : decode cX1_clear 47 = .ok (.iconst 0, 1) := by decide +kernel
theorem dX1_clear_48 : decode cX1_clear 48 = .ok (.putfield 60, 3) := by decide +kernel
theorem dX1_clear_51 : decode cX1_clear 51 = .ok (.aload_n 0, 1) := by decide +kernel
theorem dX1_clear_52 : decode cX1_clear 52 = .ok (.iconst 0, 1) := by decide +kernel
theorem dX1_clear_53 : decode cX1_clear 53 = .ok (.putfield 63, 3) := by decide +kernel
theorem dX1_clear_56 : decode cX1_clear 56 = .ok (.aload_n 0, 1) := by decide +kernel
theorem dX1_clear_57 : decode cX1_clear 57 = .ok (.iconst 0, 1) := by decide +kernel
theorem dX1_clear_58 : decode cX1_clear 58 = .ok (.putfield 66, 3) := by decide +kernel
theorem dX1_clear_61 : decode cX1_clear 61 = .ok (.return_, 1) := by decide +kernel
theorem dX1_copyFrom_0 : decode cX1_copyFrom 0 = .ok (.iconst 0, 1) := by decide +kernel
theorem dX1_copyFrom_1 : decode cX1_copyFrom 1 = .ok (.istore_n 2, 1) := by decide +kernel
theorem dX1_copyFrom_2 : decode cX1_copyFrom 2 = .ok (.iload_n 2, 1) := by decide +kernel
theorem dX1_copyFrom_3 : decode cX1_copyFrom 3 = .ok (.bipush 6, 2) := by decide +kernel
theorem dX1_copyFrom_5 : decode cX1_copyFrom 5 = .ok (.if_icmp .ge 16, 3) := by decide +kernel
theorem dX1_copyFrom_8 : decode cX1_copyFrom 8 = .ok (.aload_n 0, 1) := by decide +kernel
theorem dX1_copyFrom_9 : decode cX1_copyFrom 9 = .ok (.aload_n 1, 1) := by decide +kernel
theorem dX1_copyFrom_10 : decode cX1_copyFrom 10 = .ok (.iload_n 2, 1) := by decide +kernel
theorem dX1_copyFrom_11 : decode cX1_copyFrom 11 = .ok (.iload_n 2, 1) := by decide +kernel
theorem dX1_copyFrom_12 : decode cX1_copyFrom 12 = .ok (.invokevirtual 69, 3) := by decide +kernel
theorem dX1_copyFrom_15 : decode cX1_copyFrom 15 = .ok (.iinc 2 1, 3) := by decide +kernel
theorem dX1_copyFrom_18 : decode cX1_copyFrom 18 = .ok (.goto (-16), 3) := by decide +kernel
theorem dX1_copyFrom_21 : decode cX1_copyFrom 21 = .ok (.aload_n 0, 1) := by decide +kernel
theorem dX1_copyFrom_22 : decode cX1_copyFrom 22 = .ok (.aload_n 1, 1) := by decide +kernel
theorem dX1_copyFrom_23 : decode cX1_copyFrom 23 = .ok (.getfield 31, 3) := by decide +kernel
theorem dX1_copyFrom_26 : decode cX1_copyFrom 26 = .ok (.putfield 31, 3) := by decide +kernel
theorem dX1_copyFrom_29 : decode cX1_copyFrom 29 = .ok (.aload_n 0, 1) := by decide +kernel
theorem dX1_copyFrom_30 : decode cX1_copyFrom 30 = .ok (.aload_n 1, 1) := by decide +kernel
theorem dX1_copyFrom_31 : decode cX1_copyFrom 31 = .ok (.getfield 35, 3) := by decide +kernel
theorem dX1_copyFrom_34 : decode cX1_copyFrom 34 = .ok (.putfield 35, 3) := by decide +kernel
theorem dX1_copyFrom_37 : decode cX1_copyFrom 37 = .ok (.aload_n 0, 1) := by decide +kernel
theorem dX1_copyFrom_38 : decode cX1_copyFrom 38 = .ok (.aload_n 1, 1) := by decide +kernel
theorem dX1_copyFrom_39 : decode cX1_copyFrom 39 = .ok (.getfield 38, 3) := by decide +kernel
theorem dX1_copyFrom_42 : decode cX1_copyFrom 42 = .ok (.putfield 38, 3) := by decide +kernel
theorem dX1_copyFrom_45 : decode cX1_copyFrom 45 = .ok (.aload_n 0, 1) := by decide +kernel
theorem dX1_copyFrom_46 : decode cX1_copyFrom 46 = .ok (.aload_n 1, 1) := by decide +kernel
theorem dX1_copyFrom_47 : decode cX1_copyFrom 47 = .ok (.getfield 41, 3) := by decide +kernel
theorem dX1_copyFrom_50 : decode cX1_copyFrom 50 = .ok (.putfield 41, 3) := by decide +kernel
theorem dX1_copyFrom_53 : decode cX1_copyFrom 53 = .ok (.aload_n 0, 1) := by decide +kernel
theorem dX1_copyFrom_54 : decode cX1_copyFrom 54 = .ok (.aload_n 1, 1) := by decide +kernel
theorem dX1_copyFrom_55 : decode cX1_copyFrom 55 = .ok (.getfield 44, 3) := by decide +kernel
theorem dX1_copyFrom_58 : decode cX1_copyFrom 58 = .ok (.putfield 44, 3) := by decide +kernel
theorem dX1_copyFrom_61 : decode cX1_copyFrom 61 = .ok (.aload_n 0, 1) := by decide +kernel
theorem dX1_copyFrom_62 : decode cX1_copyFrom 62 = .ok (.aload_n 1, 1) := by decide +kernel
theorem dX1_copyFrom_63 : decode cX1_copyFrom 63 = .ok (.getfield 47, 3) := by decide +kernel
theorem dX1_copyFrom_66 : decode cX1_copyFrom 66 = .ok (.putfield 47, 3) := by decide +kernel
theorem dX1_copyFrom_69 : decode cX1_copyFrom 69 = .ok (.aload_n 0, 1) := by decide +kernel
theorem dX1_copyFrom_70 : decode cX1_copyFrom 70 = .ok (.aload_n 1, 1) := by decide +kernel
theorem dX1_copyFrom_71 : decode cX1_copyFrom 71 = .ok (.getfield 51, 3) := by decide +kernel
theorem dX1_copyFrom_74 : decode cX1_copyFrom 74 = .ok (.putfield 51, 3) := by decide +kernel
theorem dX1_copyFrom_77 : decode cX1_copyFrom 77 = .ok (.aload_n 0, 1) := by decide +kernel
theorem dX1_copyFrom_78 : decode cX1_copyFrom 78 = .ok (.aload_n 1, 1) := by decide +kernel
theorem dX1_copyFrom_79 : decode cX1_copyFrom 79 = .ok (.getfield 54, 3) := by decide +kernel
theorem dX1_copyFrom_82 : decode cX1_copyFrom 82 = .ok (.putfield 54, 3) := by decide +kernel
theorem dX1_copyFrom_85 : decode cX1_copyFrom 85 = .ok (.aload_n 0, 1) := by decide +kernel
theorem dX1_copyFrom_86 : decode cX1_copyFrom 86 = .ok (.aload_n 1, 1) := by decide +kernel
theorem dX1_copyFrom_87 : decode cX1_copyFrom 87 = .ok (.getfield 57, 3) := by decide +kernel
theorem dX1_copyFrom_90 : decode cX1_copyFrom 90 = .ok (.putfield 57, 3) := by decide +kernel
theorem dX1_copyFrom_93 : decode cX1_copyFrom 93 = .ok (.aload_n 0, 1) := by decide +kernel
theorem dX1_copyFrom_94 : decode cX1_copyFrom 94 = .ok (.aload_n 1, 1) := by decide +kernel
theorem dX1_copyFrom_95 : decode cX1_copyFrom 95 = .ok (.getfield 60, 3) := by decide +kernel
theorem dX1_copyFrom_98 : decode cX1_copyFrom 98 = .ok (.putfield 60, 3) := by decide +kernel
theorem dX1_copyFrom_101 : decode cX1_copyFrom 101 = .ok (.aload_n 0, 1) := by decide +kernel
theorem dX1_copyFrom_102 : decode cX1_copyFrom 102 = .ok (.aload_n 1, 1) := by decide +kernel
theorem dX1_copyFrom_103 : decode cX1_copyFrom 103 = .ok (.getfield 63, 3) := by decide +kernel
theorem dX1_copyFrom_106 : decode cX1_copyFrom 106 = .ok (.putfield 63, 3) := by decide +kernel
theorem dX1_copyFrom_109 : decode cX1_copyFrom 109 = .ok (.aload_n 0, 1) := by decide +kernel
theorem dX1_copyFrom_110 : decode cX1_copyFrom 110 = .ok (.aload_n 1, 1) := by decide +kernel
theorem dX1_copyFrom_111 : decode cX1_copyFrom 111 = .ok (.getfield 66, 3) := by decide +kernel
theorem dX1_copyFrom_114 : decode cX1_copyFrom 114 = .ok (.putfield 66, 3) := by decide +kernel
theorem dX1_copyFrom_117 : decode cX1_copyFrom 117 = .ok (.return_, 1) := by decide +kernel
theorem dX1_copyVehicle_0 : decode cX1_copyVehicle 0 = .ok (.aload_n 0, 1) := by decide +kernel
theorem dX1_copyVehicle_1 : decode cX1_copyVehicle 1 = .ok (.getfield 9, 3) := by decide +kernel
theorem dX1_copyVehicle_4 : decode cX1_copyVehicle 4 = .ok (.iload_n 3, 1) := by decide +kernel
theorem dX1_copyVehicle_5 : decode cX1_copyVehicle 5 = .ok (.aload_n 1, 1) := by decide +kernel
theorem dX1_copyVehicle_6 : decode cX1_copyVehicle 6 = .ok (.getfield 9, 3) := by decide +kernel
theorem dX1_copyVehicle_9 : decode cX1_copyVehicle 9 = .ok (.iload_n 2, 1) := by decide +kernel
theorem dX1_copyVehicle_10 : decode cX1_copyVehicle 10 = .ok (.iaload, 1) := by decide +kernel
theorem dX1_copyVehicle_11 : decode cX1_copyVehicle 11 = .ok (.iastore, 1) := by decide +kernel
theorem dX1_copyVehicle_12 : decode cX1_copyVehicle 12 = .ok (.aload_n 0, 1) := by decide +kernel
theorem dX1_copyVehicle_13 : decode cX1_copyVehicle 13 = .ok (.getfield 15, 3) := by decide +kernel
theorem dX1_copyVehicle_16 : decode cX1_copyVehicle 16 = .ok (.iload_n 3, 1) := by decide +kernel
theorem dX1_copyVehicle_17 : decode cX1_copyVehicle 17 = .ok (.aload_n 1, 1) := by decide +kernel
theorem dX1_copyVehicle_18 : decode cX1_copyVehicle 18 = .ok (.getfield 15, 3) := by decide +kernel
theorem dX1_copyVehicle_21 : decode cX1_copyVehicle 21 = .ok (.iload_n 2, 1) := by decide +kernel
theorem dX1_copyVehicle_22 : decode cX1_copyVehicle 22 = .ok (.iaload, 1) := by decide +kernel
theorem dX1_copyVehicle_23 : decode cX1_copyVehicle 23 = .ok (.iastore, 1) := by decide +kernel
theorem dX1_copyVehicle_24 : decode cX1_copyVehicle 24 = .ok (.aload_n 0, 1) := by decide +kernel
theorem dX1_copyVehicle_25 : decode cX1_copyVehicle 25 = .ok (.getfield 18, 3) := by decide +kernel
theorem dX1_copyVehicle_28 : decode cX1_copyVehicle 28 = .ok (.iload_n 3, 1) := by decide +kernel
theorem dX1_copyVehicle_29 : decode cX1_copyVehicle 29 = .ok (.aload_n 1, 1) := by decide +kernel
theorem dX1_copyVehicle_30 : decode cX1_copyVehicle 30 = .ok (.getfield 18, 3) := by decide +kernel
theorem dX1_copyVehicle_33 : decode cX1_copyVehicle 33 = .ok (.iload_n 2, 1) := by decide +kernel
theorem dX1_copyVehicle_34 : decode cX1_copyVehicle 34 = .ok (.baload, 1) := by decide +kernel
theorem dX1_copyVehicle_35 : decode cX1_copyVehicle 35 = .ok (.bastore, 1) := by decide +kernel
theorem dX1_copyVehicle_36 : decode cX1_copyVehicle 36 = .ok (.aload_n 0, 1) := by decide +kernel
theorem dX1_copyVehicle_37 : decode cX1_copyVehicle 37 = .ok (.getfield 22, 3) := by decide +kernel
theorem dX1_copyVehicle_40 : decode cX1_copyVehicle 40 = .ok (.iload_n 3, 1) := by decide +kernel
theorem dX1_copyVehicle_41 : decode cX1_copyVehicle 41 = .ok (.aload_n 1, 1) := by decide +kernel
theorem dX1_copyVehicle_42 : decode cX1_copyVehicle 42 = .ok (.getfield 22, 3) := by decide +kernel
theorem dX1_copyVehicle_45 : decode cX1_copyVehicle 45 = .ok (.iload_n 2, 1) := by decide +kernel
theorem dX1_copyVehicle_46 : decode cX1_copyVehicle 46 = .ok (.baload, 1) := by decide +kernel
theorem dX1_copyVehicle_47 : decode cX1_copyVehicle 47 = .ok (.bastore, 1) := by decide +kernel
theorem dX1_copyVehicle_48 : decode cX1_copyVehicle 48 = .ok (.aload_n 0, 1) := by decide +kernel
theorem dX1_copyVehicle_49 : decode cX1_copyVehicle 49 = .ok (.getfield 25, 3) := by decide +kernel
theorem dX1_copyVehicle_52 : decode cX1_copyVehicle 52 = .ok (.iload_n 3, 1) := by decide +kernel
theorem dX1_copyVehicle_53 : decode cX1_copyVehicle 53 = .ok (.aload_n 1, 1) := by decide +kernel
theorem dX1_copyVehicle_54 : decode cX1_copyVehicle 54 = .ok (.getfield 25, 3) := by decide +kernel
theorem dX1_copyVehicle_57 : decode cX1_copyVehicle 57 = .ok (.iload_n 2, 1) := by decide +kernel
theorem dX1_copyVehicle_58 : decode cX1_copyVehicle 58 = .ok (.baload, 1) := by decide +kernel
theorem dX1_copyVehicle_59 : decode cX1_copyVehicle 59 = .ok (.bastore, 1) := by decide +kernel
theorem dX1_copyVehicle_60 : decode cX1_copyVehicle 60 = .ok (.return_, 1) := by decide +kernel
theorem dX1_hasVehicle_0 : decode cX1_hasVehicle 0 = .ok (.iload_n 1, 1) := by decide +kernel
theorem dX1_hasVehicle_1 : decode cX1_hasVehicle 1 = .ok (.ifCond .lt 21, 3) := by decide +kernel
theorem dX1_hasVehicle_4 : decode cX1_hasVehicle 4 = .ok (.iload_n 1, 1) := by decide +kernel
theorem dX1_hasVehicle_5 : decode cX1_hasVehicle 5 = .ok (.aload_n 0, 1) := by decide +kernel
theorem dX1_hasVehicle_6 : decode cX1_hasVehicle 6 = .ok (.getfield 31, 3) := by decide +kernel
theorem dX1_hasVehicle_9 : decode cX1_hasVehicle 9 = .ok (.if_icmp .ge 13, 3) := by decide +kernel
theorem dX1_hasVehicle_12 : decode cX1_hasVehicle 12 = .ok (.iload_n 1, 1) := by decide +kernel
theorem dX1_hasVehicle_13 : decode cX1_hasVehicle 13 = .ok (.bipush 6, 2) := by decide +kernel
theorem dX1_hasVehicle_15 : decode cX1_hasVehicle 15 = .ok (.if_icmp .ge 7, 3) := by decide +kernel
theorem dX1_hasVehicle_18 : decode cX1_hasVehicle 18 = .ok (.iconst 1, 1) := by decide +kernel
theorem dX1_hasVehicle_19 : decode cX1_hasVehicle 19 = .ok (.goto 4, 3) := by decide +kernel
theorem dX1_hasVehicle_22 : decode cX1_hasVehicle 22 = .ok (.iconst 0, 1) := by decide +kernel
theorem dX1_hasVehicle_23 : decode cX1_hasVehicle 23 = .ok (.ireturn, 1) := by decide +kernel
theorem dX1_lastCell_0 : decode cX1_lastCell 0 = .ok (.aload_n 0, 1) := by decide +kernel
theorem dX1_lastCell_1 : decode cX1_lastCell 1 = .ok (.getfield 15, 3) := by decide +kernel
theorem dX1_lastCell_4 : decode cX1_lastCell 4 = .ok (.iload_n 1, 1) := by decide +kernel
theorem dX1_lastCell_5 : decode cX1_lastCell 5 = .ok (.iaload, 1) := by decide +kernel
theorem dX1_lastCell_6 : decode cX1_lastCell 6 = .ok (.aload_n 0, 1) := by decide +kernel
theorem dX1_lastCell_7 : decode cX1_lastCell 7 = .ok (.getfield 9, 3) := by decide +kernel
theorem dX1_lastCell_10 : decode cX1_lastCell 10 = .ok (.iload_n 1, 1) := by decide +kernel
theorem dX1_lastCell_11 : decode cX1_lastCell 11 = .ok (.iaload, 1) := by decide +kernel
theorem dX1_lastCell_12 : decode cX1_lastCell 12 = .ok (.isub, 1) := by decide +kernel
theorem dX1_lastCell_13 : decode cX1_lastCell 13 = .ok (.iconst 1, 1) := by decide +kernel
theorem dX1_lastCell_14 : decode cX1_lastCell 14 = .ok (.iadd, 1) := by decide +kernel
theorem dX1_lastCell_15 : decode cX1_lastCell 15 = .ok (.ireturn, 1) := by decide +kernel
theorem dX1_addVehicle_0 : decode cX1_addVehicle 0 = .ok (.aload_n 0, 1) := by decide +kernel
theorem dX1_addVehicle_1 : decode cX1_addVehicle 1 = .ok (.getfield 31, 3) := by decide +kernel
theorem dX1_addVehicle_4 : decode cX1_addVehicle 4 = .ok (.istore 4, 2) := by decide +kernel
theorem dX1_addVehicle_6 : decode cX1_addVehicle 6 = .ok (.iload 4, 2) := by decide +kernel
theorem dX1_addVehicle_8 : decode cX1_addVehicle 8 = .ok (.ifCond .lt 10, 3) := by decide +kernel
theorem dX1_addVehicle_11 : decode cX1_addVehicle 11 = .ok (.iload 4, 2) := by decide +kernel
theorem dX1_addVehicle_13 : decode cX1_addVehicle 13 = .ok (.bipush 6, 2) := by decide +kernel
theorem dX1_addVehicle_15 : decode cX1_addVehicle 15 = .ok (.if_icmp .lt 5, 3) := by decide +kernel
theorem dX1_addVehicle_18 : decode cX1_addVehicle 18 = .ok (.iconst 0, 1) := by decide +kernel
theorem dX1_addVehicle_19 : decode cX1_addVehicle 19 = .ok (.ireturn, 1) := by decide +kernel
theorem dX1_addVehicle_20 : decode cX1_addVehicle 20 = .ok (.aload_n 0, 1) := by decide +kernel
theorem dX1_addVehicle_21 : decode cX1_addVehicle 21 = .ok (.getfield 9, 3) := by decide +kernel
theorem dX1_addVehicle_24 : decode cX1_addVehicle 24 = .ok (.iload 4, 2) := by decide +kernel
theorem dX1_addVehicle_26 : decode cX1_addVehicle 26 = .ok (.iload_n 1, 1) := by decide +kernel
theorem dX1_addVehicle_27 : decode cX1_addVehicle 27 = .ok (.iastore, 1) := by decide +kernel
theorem dX1_addVehicle_28 : decode cX1_addVehicle 28 = .ok (.aload_n 0, 1) := by decide +kernel
theorem dX1_addVehicle_29 : decode cX1_addVehicle 29 = .ok (.getfield 15, 3) := by decide +kernel
theorem dX1_addVehicle_32 : decode cX1_addVehicle 32 = .ok (.iload 4, 2) := by decide +kernel
theorem dX1_addVehicle_34 : decode cX1_addVehicle 34 = .ok (.iload 4, 2) := by decide +kernel
theorem dX1_addVehicle_36 : decode cX1_addVehicle 36 = .ok (.ifCond .ne 7, 3) := by decide +kernel
theorem dX1_addVehicle_39 : decode cX1_addVehicle 39 = .ok (.iconst (-1), 1) := by decide +kernel
theorem dX1_addVehicle_40 : decode cX1_addVehicle 40 = .ok (.goto 17, 3) := by decide +kernel
theorem dX1_addVehicle_43 : decode cX1_addVehicle 43 = .ok (.iconst (-1), 1) := by decide +kernel
theorem dX1_addVehicle_44 : decode cX1_addVehicle 44 = .ok (.aload_n 0, 1) := by decide +kernel
theorem dX1_addVehicle_45 : decode cX1_addVehicle 45 = .ok (.iload 4, 2) := by decide +kernel
theorem dX1_addVehicle_47 : decode cX1_addVehicle 47 = .ok (.iconst 1, 1) := by decide +kernel
theorem dX1_addVehicle_48 : decode cX1_addVehicle 48 = .ok (.isub, 1) := by decide +kernel
theorem dX1_addVehicle_49 : decode cX1_addVehicle 49 = .ok (.invokevirtual 73, 3) := by decide +kernel
theorem dX1_addVehicle_52 : decode cX1_addVehicle 52 = .ok (.iconst 2, 1) := by decide +kernel
theorem dX1_addVehicle_53 : decode cX1_addVehicle 53 = .ok (.isub, 1) := by decide +kernel
theorem dX1_addVehicle_54 : decode cX1_addVehicle 54 = .ok (.invokestatic 77, 3) := by decide +kernel
theorem dX1_addVehicle_57 : decode cX1_addVehicle 57 = .ok (.iastore, 1) := by decide +kernel
theorem dX1_addVehicle_58 : decode cX1_addVehicle 58 = .ok (.aload_n 0, 1) := by decide +kernel
theorem dX1_addVehicle_59 : decode cX1_addVehicle 59 = .ok (.getfield 18, 3) := by decide +kernel
theorem dX1_addVehicle_62 : decode cX1_addVehicle 62 = .ok (.iload 4, 2) := by decide +kernel
theorem dX1_addVehicle_64 : decode cX1_addVehicle 64 = .ok (.iload_n 2, 1) := by decide +kernel
theorem dX1_addVehicle_65 : decode cX1_addVehicle 65 = .ok (.bastore, 1) := by decide +kernel
theorem dX1_addVehicle_66 : decode cX1_addVehicle 66 = .ok (.aload_n 0, 1) := by decide +kernel
theorem dX1_addVehicle_67 : decode cX1_addVehicle 67 = .ok (.getfield 22, 3) := by decide +kernel
theorem dX1_addVehicle_70 : decode cX1_addVehicle 70 = .ok (.iload 4, 2) := by decide +kernel
theorem dX1_addVehicle_72 : decode cX1_addVehicle 72 = .ok (.iload_n 3, 1) := by decide +kernel
theorem dX1_addVehicle_73 : decode cX1_addVehicle 73 = .ok (.bastore, 1) := by decide +kernel
theorem dX1_addVehicle_74 : decode cX1_addVehicle 74 = .ok (.aload_n 0, 1) := by decide +kernel
theorem dX1_addVehicle_75 : decode cX1_addVehicle 75 = .ok (.getfield 25, 3) := by decide +kernel
theorem dX1_addVehicle_78 : decode cX1_addVehicle 78 = .ok (.iload 4, 2) := by decide +kernel
theorem dX1_addVehicle_80 : decode cX1_addVehicle 80 = .ok (.iconst 0, 1) := by decide +kernel
theorem dX1_addVehicle_81 : decode cX1_addVehicle 81 = .ok (.bastore, 1) := by decide +kernel
theorem dX1_addVehicle_82 : decode cX1_addVehicle 82 = .ok (.aload_n 0, 1) := by decide +kernel
theorem dX1_addVehicle_83 : decode cX1_addVehicle 83 = .ok (.dup, 1) := by decide +kernel
theorem dX1_addVehicle_84 : decode cX1_addVehicle 84 = .ok (.getfield 31, 3) := by decide +kernel
theorem dX1_addVehicle_87 : decode cX1_addVehicle 87 = .ok (.iconst 1, 1) := by decide +kernel
theorem dX1_addVehicle_88 : decode cX1_addVehicle 88 = .ok (.iadd, 1) := by decide +kernel
theorem dX1_addVehicle_89 : decode cX1_addVehicle 89 = .ok (.putfield 31, 3) := by decide +kernel
theorem dX1_addVehicle_92 : decode cX1_addVehicle 92 = .ok (.iconst 1, 1) := by decide +kernel
theorem dX1_addVehicle_93 : decode cX1_addVehicle 93 = .ok (.ireturn, 1) := by decide +kernel
theorem dX1_tick_0 : decode cX1_tick 0 = .ok (.aload_n 0, 1) := by decide +kernel
theorem dX1_tick_1 : decode cX1_tick 1 = .ok (.invokevirtual 83, 3) := by decide +kernel
theorem dX1_tick_4 : decode cX1_tick 4 = .ok (.aload_n 0, 1) := by decide +kernel
theorem dX1_tick_5 : decode cX1_tick 5 = .ok (.aload_n 1, 1) := by decide +kernel
theorem dX1_tick_6 : decode cX1_tick 6 = .ok (.iconst 0, 1) := by decide +kernel
theorem dX1_tick_7 : decode cX1_tick 7 = .ok (.iaload, 1) := by decide +kernel
theorem dX1_tick_8 : decode cX1_tick 8 = .ok (.aload_n 1, 1) := by decide +kernel
theorem dX1_tick_9 : decode cX1_tick 9 = .ok (.iconst 1, 1) := by decide +kernel
theorem dX1_tick_10 : decode cX1_tick 10 = .ok (.iaload, 1) := by decide +kernel
theorem dX1_tick_11 : decode cX1_tick 11 = .ok (.aload_n 1, 1) := by decide +kernel
theorem dX1_tick_12 : decode cX1_tick 12 = .ok (.iconst 2, 1) := by decide +kernel
theorem dX1_tick_13 : decode cX1_tick 13 = .ok (.iaload, 1) := by decide +kernel
theorem dX1_tick_14 : decode cX1_tick 14 = .ok (.invokevirtual 86, 3) := by decide +kernel
theorem dX1_tick_17 : decode cX1_tick 17 = .ok (.aload_n 0, 1) := by decide +kernel
theorem dX1_tick_18 : decode cX1_tick 18 = .ok (.getfield 51, 3) := by decide +kernel
theorem dX1_tick_21 : decode cX1_tick 21 = .ok (.ifCond .ne 19, 3) := by decide +kernel
theorem dX1_tick_24 : decode cX1_tick 24 = .ok (.aload_n 0, 1) := by decide +kernel
theorem dX1_tick_25 : decode cX1_tick 25 = .ok (.aload_n 0, 1) := by decide +kernel
theorem dX1_tick_26 : decode cX1_tick 26 = .ok (.invokevirtual 90, 3) := by decide +kernel
theorem dX1_tick_29 : decode cX1_tick 29 = .ok (.ifCond .eq 7, 3) := by decide +kernel
theorem dX1_tick_32 : decode cX1_tick 32 = .ok (.iconst 1, 1) := by decide +kernel
theorem dX1_tick_33 : decode cX1_tick 33 = .ok (.goto 4, 3) := by decide +kernel
theorem dX1_tick_36 : decode cX1_tick 36 = .ok (.iconst 0, 1) := by decide +kernel
theorem dX1_tick_37 : decode cX1_tick 37 = .ok (.invokevirtual 94, 3) := by decide +kernel
theorem dX1_tick_40 : decode cX1_tick 40 = .ok (.aload_n 0, 1) := by decide +kernel
theorem dX1_tick_41 : decode cX1_tick 41 = .ok (.invokevirtual 98, 3) := by decide +kernel
theorem dX1_tick_44 : decode cX1_tick 44 = .ok (.aload_n 0, 1) := by decide +kernel
theorem dX1_tick_45 : decode cX1_tick 45 = .ok (.invokevirtual 101, 3) := by decide +kernel
theorem dX1_tick_48 : decode cX1_tick 48 = .ok (.return_, 1) := by decide +kernel
theorem dX1_moveVehicles_0 : decode cX1_moveVehicles 0 = .ok (.iconst 0, 1) := by decide +kernel
theorem dX1_moveVehicles_1 : decode cX1_moveVehicles 1 = .ok (.istore_n 1, 1) := by decide +kernel
theorem dX1_moveVehicles_2 : decode cX1_moveVehicles 2 = .ok (.iload_n 1, 1) := by decide +kernel
theorem dX1_moveVehicles_3 : decode cX1_moveVehicles 3 = .ok (.aload_n 0, 1) := by decide +kernel
theorem dX1_moveVehicles_4 : decode cX1_moveVehicles 4 = .ok (.getfield 31, 3) := by decide +kernel
theorem dX1_moveVehicles_7 : decode cX1_moveVehicles 7 = .ok (.if_icmp .ge 27, 3) := by decide +kernel
theorem dX1_moveVehicles_10 : decode cX1_moveVehicles 10 = .ok (.aload_n 0, 1) := by decide +kernel
theorem dX1_moveVehicles_11 : decode cX1_moveVehicles 11 = .ok (.iload_n 1, 1) := by decide +kernel
theorem dX1_moveVehicles_12 : decode cX1_moveVehicles 12 = .ok (.invokevirtual 104, 3) := by decide +kernel
theorem dX1_moveVehicles_15 : decode cX1_moveVehicles 15 = .ok (.ifCond .eq 13, 3) := by decide +kernel
theorem dX1_moveVehicles_18 : decode cX1_moveVehicles 18 = .ok (.aload_n 0, 1) := by decide +kernel
theorem dX1_moveVehicles_19 : decode cX1_moveVehicles 19 = .ok (.getfield 15, 3) := by decide +kernel
theorem dX1_moveVehicles_22 : decode cX1_moveVehicles 22 = .ok (.iload_n 1, 1) := by decide +kernel
theorem dX1_moveVehicles_23 : decode cX1_moveVehicles 23 = .ok (.dup2, 1) := by decide +kernel
theorem dX1_moveVehicles_24 : decode cX1_moveVehicles 24 = .ok (.iaload, 1) := by decide +kernel
theorem dX1_moveVehicles_25 : decode cX1_moveVehicles 25 = .ok (.iconst 1, 1) := by decide +kernel
theorem dX1_moveVehicles_26 : decode cX1_moveVehicles 26 = .ok (.iadd, 1) := by decide +kernel
theorem dX1_moveVehicles_27 : decode cX1_moveVehicles 27 = .ok (.iastore, 1) := by decide +kernel
theorem dX1_moveVehicles_28 : decode cX1_moveVehicles 28 = .ok (.iinc 1 1, 3) := by decide +kernel
theorem dX1_moveVehicles_31 : decode cX1_moveVehicles 31 = .ok (.goto (-29), 3) := by decide +kernel
theorem dX1_moveVehicles_34 : decode cX1_moveVehicles 34 = .ok (.aload_n 0, 1) := by decide +kernel
theorem dX1_moveVehicles_35 : decode cX1_moveVehicles 35 = .ok (.getfield 31, 3) := by decide +kernel
theorem dX1_moveVehicles_38 : decode cX1_moveVehicles 38 = .ok (.ifCond .le 27, 3) := by decide +kernel
theorem dX1_moveVehicles_41 : decode cX1_moveVehicles 41 = .ok (.aload_n 0, 1) := by decide +kernel
theorem dX1_moveVehicles_42 : decode cX1_moveVehicles 42 = .ok (.iconst 0, 1) := by decide +kernel
theorem dX1_moveVehicles_43 : decode cX1_moveVehicles 43 = .ok (.invokevirtual 73, 3) := by decide +kernel
theorem dX1_moveVehicles_46 : decode cX1_moveVehicles 46 = .ok (.bipush 39, 2) := by decide +kernel
theorem dX1_moveVehicles_48 : decode cX1_moveVehicles 48 = .ok (.if_icmp .le 17, 3) := by decide +kernel
theorem dX1_moveVehicles_51 : decode cX1_moveVehicles 51 = .ok (.aload_n 0, 1) := by decide +kernel
theorem dX1_moveVehicles_52 : decode cX1_moveVehicles 52 = .ok (.invokevirtual 108, 3) := by decide +kernel
theorem dX1_moveVehicles_55 : decode cX1_moveVehicles 55 = .ok (.aload_n 0, 1) := by decide +kernel
theorem dX1_moveVehicles_56 : decode cX1_moveVehicles 56 = .ok (.dup, 1) := by decide +kernel
theorem dX1_moveVehicles_57 : decode cX1_moveVehicles 57 = .ok (.getfield 54, 3) := by decide +kernel
theorem dX1_moveVehicles_60 : decode cX1_moveVehicles 60 = .ok (.iconst 1, 1) := by decide +kernel
theorem dX1_moveVehicles_61 : decode cX1_moveVehicles 61 = .ok (.iadd, 1) := by decide +kernel
theorem dX1_moveVehicles_62 : decode cX1_moveVehicles 62 = .ok (.putfield 54, 3) := by decide +kernel
theorem dX1_moveVehicles_65 : decode cX1_moveVehicles 65 = .ok (.return_, 1) := by decide +kernel
theorem dX1_canMove_0 : decode cX1_canMove 0 = .ok (.aload_n 0, 1) := by decide +kernel
theorem dX1_canMove_1 : decode cX1_canMove 1 = .ok (.getfield 15, 3) := by decide +kernel
theorem dX1_canMove_4 : decode cX1_canMove 4 = .ok (.iload_n 1, 1) := by decide +kernel
theorem dX1_canMove_5 : decode cX1_canMove 5 = .ok (.iaload, 1) := by decide +kernel
theorem dX1_canMove_6 : decode cX1_canMove 6 = .ok (.iconst 1, 1) := by decide +kernel
theorem dX1_canMove_7 : decode cX1_canMove 7 = .ok (.iadd, 1) := by decide +kernel
theorem dX1_canMove_8 : decode cX1_canMove 8 = .ok (.istore_n 2, 1) := by decide +kernel
theorem dX1_canMove_9 : decode cX1_canMove 9 = .ok (.iload_n 1, 1) := by decide +kernel
theorem dX1_canMove_10 : decode cX1_canMove 10 = .ok (.ifCond .le 18, 3) := by decide +kernel
theorem dX1_canMove_13 : decode cX1_canMove 13 = .ok (.aload_n 0, 1) := by decide +kernel
theorem dX1_canMove_14 : decode cX1_canMove 14 = .ok (.iload_n 1, 1) := by decide +kernel
theorem dX1_canMove_15 : decode cX1_canMove 15 = .ok (.iconst 1, 1) := by decide +kernel
theorem dX1_canMove_16 : decode cX1_canMove 16 = .ok (.isub, 1) := by decide +kernel
theorem dX1_canMove_17 : decode cX1_canMove 17 = .ok (.invokevirtual 73, 3) := by decide +kernel
theorem dX1_canMove_20 : decode cX1_canMove 20 = .ok (.iload_n 2, 1) := by decide +kernel
theorem dX1_canMove_21 : decode cX1_canMove 21 = .ok (.iconst 1, 1) := by decide +kernel
theorem dX1_canMove_22 : decode cX1_canMove 22 = .ok (.iadd, 1) := by decide +kernel
theorem dX1_canMove_23 : decode cX1_canMove 23 = .ok (.if_icmp .ge 5, 3) := by decide +kernel
theorem dX1_canMove_26 : decode cX1_canMove 26 = .ok (.iconst 0, 1) := by decide +kernel
theorem dX1_canMove_27 : decode cX1_canMove 27 = .ok (.ireturn, 1) := by decide +kernel
theorem dX1_canMove_28 : decode cX1_canMove 28 = .ok (.aload_n 0, 1) := by decide +kernel
theorem dX1_canMove_29 : decode cX1_canMove 29 = .ok (.getfield 15, 3) := by decide +kernel
theorem dX1_canMove_32 : decode cX1_canMove 32 = .ok (.iload_n 1, 1) := by decide +kernel
theorem dX1_canMove_33 : decode cX1_canMove 33 = .ok (.iaload, 1) := by decide +kernel
theorem dX1_canMove_34 : decode cX1_canMove 34 = .ok (.bipush 19, 2) := by decide +kernel
theorem dX1_canMove_36 : decode cX1_canMove 36 = .ok (.if_icmp .ne 29, 3) := by decide +kernel
theorem dX1_canMove_39 : decode cX1_canMove 39 = .ok (.aload_n 0, 1) := by decide +kernel
theorem dX1_canMove_40 : decode cX1_canMove 40 = .ok (.getfield 35, 3) := by decide +kernel
theorem dX1_canMove_43 : decode cX1_canMove 43 = .ok (.iconst 4, 1) := by decide +kernel
theorem dX1_canMove_44 : decode cX1_canMove 44 = .ok (.if_icmp .ne 25, 3) := by decide +kernel
theorem dX1_canMove_47 : decode cX1_canMove 47 = .ok (.aload_n 0, 1) := by decide +kernel
theorem dX1_canMove_48 : decode cX1_canMove 48 = .ok (.getfield 25, 3) := by decide +kernel
theorem dX1_canMove_51 : decode cX1_canMove 51 = .ok (.iload_n 1, 1) := by decide +kernel
theorem dX1_canMove_52 : decode cX1_canMove 52 = .ok (.baload, 1) := by decide +kernel
theorem dX1_canMove_53 : decode cX1_canMove 53 = .ok (.ifCond .ne 12, 3) := by decide +kernel
theorem dX1_canMove_56 : decode cX1_canMove 56 = .ok (.aload_n 0, 1) := by decide +kernel
theorem dX1_canMove_57 : decode cX1_canMove 57 = .ok (.getfield 22, 3) := by decide +kernel
theorem dX1_canMove_60 : decode cX1_canMove 60 = .ok (.iload_n 1, 1) := by decide +kernel
theorem dX1_canMove_61 : decode cX1_canMove 61 = .ok (.baload, 1) := by decide +kernel
theorem dX1_canMove_62 : decode cX1_canMove 62 = .ok (.ifCond .eq 7, 3) := by decide +kernel
theorem dX1_canMove_65 : decode cX1_canMove 65 = .ok (.iconst 1, 1) := by decide +kernel
theorem dX1_canMove_66 : decode cX1_canMove 66 = .ok (.goto 4, 3) := by decide +kernel
theorem dX1_canMove_69 : decode cX1_canMove 69 = .ok (.iconst 0, 1) := by decide +kernel
theorem dX1_canMove_70 : decode cX1_canMove 70 = .ok (.ireturn, 1) := by decide +kernel
theorem dX1_removeFirst_0 : decode cX1_removeFirst 0 = .ok (.iconst 1, 1) := by decide +kernel
theorem dX1_removeFirst_1 : decode cX1_removeFirst 1 = .ok (.istore_n 1, 1) := by decide +kernel
theorem dX1_removeFirst_2 : decode cX1_removeFirst 2 = .ok (.iload_n 1, 1) := by decide +kernel
theorem dX1_removeFirst_3 : decode cX1_removeFirst 3 = .ok (.aload_n 0, 1) := by decide +kernel
theorem dX1_removeFirst_4 : decode cX1_removeFirst 4 = .ok (.getfield 31, 3) := by decide +kernel
theorem dX1_removeFirst_7 : decode cX1_removeFirst 7 = .ok (.if_icmp .ge 18, 3) := by decide +kernel
theorem dX1_removeFirst_10 : decode cX1_removeFirst 10 = .ok (.aload_n 0, 1) := by decide +kernel
theorem dX1_removeFirst_11 : decode cX1_removeFirst 11 = .ok (.aload_n 0, 1) := by decide +kernel
theorem dX1_removeFirst_12 : decode cX1_removeFirst 12 = .ok (.iload_n 1, 1) := by decide +kernel
theorem dX1_removeFirst_13 : decode cX1_removeFirst 13 = .ok (.iload_n 1, 1) := by decide +kernel
theorem dX1_removeFirst_14 : decode cX1_removeFirst 14 = .ok (.iconst 1, 1) := by decide +kernel
theorem dX1_removeFirst_15 : decode cX1_removeFirst 15 = .ok (.isub, 1) := by decide +kernel
theorem dX1_removeFirst_16 : decode cX1_removeFirst 16 = .ok (.invokevirtual 69, 3) := by decide +kernel
theorem dX1_removeFirst_19 : decode cX1_removeFirst 19 = .ok (.iinc 1 1, 3) := by decide +kernel
theorem dX1_removeFirst_22 : decode cX1_removeFirst 22 = .ok (.goto (-20), 3) := by decide +kernel
theorem dX1_removeFirst_25 : decode cX1_removeFirst 25 = .ok (.aload_n 0, 1) := by decide +kernel
theorem dX1_removeFirst_26 : decode cX1_removeFirst 26 = .ok (.dup, 1) := by decide +kernel
theorem dX1_removeFirst_27 : decode cX1_removeFirst 27 = .ok (.getfield 31, 3) := by decide +kernel
theorem dX1_removeFirst_30 : decode cX1_removeFirst 30 = .ok (.iconst 1, 1) := by decide +kernel
theorem dX1_removeFirst_31 : decode cX1_removeFirst 31 = .ok (.isub, 1) := by decide +kernel
theorem dX1_removeFirst_32 : decode cX1_removeFirst 32 = .ok (.putfield 31, 3) := by decide +kernel
theorem dX1_removeFirst_35 : decode cX1_removeFirst 35 = .ok (.return_, 1) := by decide +kernel
theorem dX1_checkTicket_0 : decode cX1_checkTicket 0 = .ok (.aload_n 0, 1) := by decide +kernel
theorem dX1_checkTicket_1 : decode cX1_checkTicket 1 = .ok (.invokevirtual 111, 3) := by decide +kernel
theorem dX1_checkTicket_4 : decode cX1_checkTicket 4 = .ok (.istore 4, 2) := by decide +kernel
theorem dX1_checkTicket_6 : decode cX1_checkTicket 6 = .ok (.iload 4, 2) := by decide +kernel
theorem dX1_checkTicket_8 : decode cX1_checkTicket 8 = .ok (.iconst (-1), 1) := by decide +kernel
theorem dX1_checkTicket_9 : decode cX1_checkTicket 9 = .ok (.if_icmp .ne 9, 3) := by decide +kernel
theorem dX1_checkTicket_12 : decode cX1_checkTicket 12 = .ok (.aload_n 0, 1) := by decide +kernel
theorem dX1_checkTicket_13 : decode cX1_checkTicket 13 = .ok (.iconst 0, 1) := by decide +kernel
theorem dX1_checkTicket_14 : decode cX1_checkTicket 14 = .ok (.putfield 44, 3) := by decide +kernel
theorem dX1_checkTicket_17 : decode cX1_checkTicket 17 = .ok (.return_, 1) := by decide +kernel
theorem dX1_checkTicket_18 : decode cX1_checkTicket 18 = .ok (.aload_n 0, 1) := by decide +kernel
theorem dX1_checkTicket_19 : decode cX1_checkTicket 19 = .ok (.dup, 1) := by decide +kernel
theorem dX1_checkTicket_20 : decode cX1_checkTicket 20 = .ok (.getfield 44, 3) := by decide +kernel
theorem dX1_checkTicket_23 : decode cX1_checkTicket 23 = .ok (.iconst 1, 1) := by decide +kernel
theorem dX1_checkTicket_24 : decode cX1_checkTicket 24 = .ok (.iadd, 1) := by decide +kernel
theorem dX1_checkTicket_25 : decode cX1_checkTicket 25 = .ok (.putfield 44, 3) := by decide +kernel
theorem dX1_checkTicket_28 : decode cX1_checkTicket 28 = .ok (.aload_n 0, 1) := by decide +kernel
theorem dX1_checkTicket_29 : decode cX1_checkTicket 29 = .ok (.getfield 44, 3) := by decide +kernel
theorem dX1_checkTicket_32 : decode cX1_checkTicket 32 = .ok (.aload_n 0, 1) := by decide +kernel
theorem dX1_checkTicket_33 : decode cX1_checkTicket 33 = .ok (.getfield 18, 3) := by decide +kernel
theorem dX1_checkTicket_36 : decode cX1_checkTicket 36 = .ok (.iload 4, 2) := by decide +kernel
theorem dX1_checkTicket_38 : decode cX1_checkTicket 38 = .ok (.baload, 1) := by decide +kernel
theorem dX1_checkTicket_39 : decode cX1_checkTicket 39 = .ok (.ifCond .eq 7, 3) := by decide +kernel
theorem dX1_checkTicket_42 : decode cX1_checkTicket 42 = .ok (.iload_n 2, 1) := by decide +kernel
theorem dX1_checkTicket_43 : decode cX1_checkTicket 43 = .ok (.goto 4, 3) := by decide +kernel
theorem dX1_checkTicket_46 : decode cX1_checkTicket 46 = .ok (.iload_n 1, 1) := by decide +kernel
theorem dX1_checkTicket_47 : decode cX1_checkTicket 47 = .ok (.if_icmp .lt 49, 3) := by decide +kernel
theorem dX1_checkTicket_50 : decode cX1_checkTicket 50 = .ok (.aload_n 0, 1) := by decide +kernel
theorem dX1_checkTicket_51 : decode cX1_checkTicket 51 = .ok (.getfield 25, 3) := by decide +kernel
theorem dX1_checkTicket_54 : decode cX1_checkTicket 54 = .ok (.iload 4, 2) := by decide +kernel
theorem dX1_checkTicket_56 : decode cX1_checkTicket 56 = .ok (.iconst 1, 1) := by decide +kernel
theorem dX1_checkTicket_57 : decode cX1_checkTicket 57 = .ok (.bastore, 1) := by decide +kernel
theorem dX1_checkTicket_58 : decode cX1_checkTicket 58 = .ok (.aload_n 0, 1) := by decide +kernel
theorem dX1_checkTicket_59 : decode cX1_checkTicket 59 = .ok (.aload_n 0, 1) := by decide +kernel
theorem dX1_checkTicket_60 : decode cX1_checkTicket 60 = .ok (.getfield 41, 3) := by decide +kernel
theorem dX1_checkTicket_63 : decode cX1_checkTicket 63 = .ok (.bipush 8, 2) := by decide +kernel
theorem dX1_checkTicket_65 : decode cX1_checkTicket 65 = .ok (.idiv, 1) := by decide +kernel
theorem dX1_checkTicket_66 : decode cX1_checkTicket 66 = .ok (.iload_n 3, 1) := by decide +kernel
theorem dX1_checkTicket_67 : decode cX1_checkTicket 67 = .ok (.iadd, 1) := by decide +kernel
theorem dX1_checkTicket_68 : decode cX1_checkTicket 68 = .ok (.putfield 38, 3) := by decide +kernel
theorem dX1_checkTicket_71 : decode cX1_checkTicket 71 = .ok (.aload_n 0, 1) := by decide +kernel
theorem dX1_checkTicket_72 : decode cX1_checkTicket 72 = .ok (.iconst 0, 1) := by decide +kernel
theorem dX1_checkTicket_73 : decode cX1_checkTicket 73 = .ok (.putfield 44, 3) := by decide +kernel
theorem dX1_checkTicket_76 : decode cX1_checkTicket 76 = .ok (.aload_n 0, 1) := by decide +kernel
theorem dX1_checkTicket_77 : decode cX1_checkTicket 77 = .ok (.getfield 18, 3) := by decide +kernel
theorem dX1_checkTicket_80 : decode cX1_checkTicket 80 = .ok (.iload 4, 2) := by decide +kernel
theorem dX1_checkTicket_82 : decode cX1_checkTicket 82 = .ok (.baload, 1) := by decide +kernel
theorem dX1_checkTicket_83 : decode cX1_checkTicket 83 = .ok (.ifCond .eq 13, 3) := by decide +kernel
theorem dX1_checkTicket_86 : decode cX1_checkTicket 86 = .ok (.aload_n 0, 1) := by decide +kernel
theorem dX1_checkTicket_87 : decode cX1_checkTicket 87 = .ok (.dup, 1) := by decide +kernel
theorem dX1_checkTicket_88 : decode cX1_checkTicket 88 = .ok (.getfield 66, 3) := by decide +kernel
theorem dX1_checkTicket_91 : decode cX1_checkTicket 91 = .ok (.iconst 1, 1) := by decide +kernel
theorem dX1_checkTicket_92 : decode cX1_checkTicket 92 = .ok (.iadd, 1) := by decide +kernel
theorem dX1_checkTicket_93 : decode cX1_checkTicket 93 = .ok (.putfield 66, 3) := by decide +kernel
theorem dX1_checkTicket_96 : decode cX1_checkTicket 96 = .ok (.return_, 1) := by decide +kernel
theorem dX1_vehicleInCheck_0 : decode cX1_vehicleInCheck 0 = .ok (.iconst 0, 1) := by decide +kernel
theorem dX1_vehicleInCheck_1 : decode cX1_vehicleInCheck 1 = .ok (.istore_n 1, 1) := by decide +kernel
theorem dX1_vehicleInCheck_2 : decode cX1_vehicleInCheck 2 = .ok (.iload_n 1, 1) := by decide +kernel
theorem dX1_vehicleInCheck_3 : decode cX1_vehicleInCheck 3 = .ok (.aload_n 0, 1) := by decide +kernel
theorem dX1_vehicleInCheck_4 : decode cX1_vehicleInCheck 4 = .ok (.getfield 31, 3) := by decide +kernel
theorem dX1_vehicleInCheck_7 : decode cX1_vehicleInCheck 7 = .ok (.if_icmp .ge 31, 3) := by decide +kernel
theorem dX1_vehicleInCheck_10 : decode cX1_vehicleInCheck 10 = .ok (.aload_n 0, 1) := by decide +kernel
theorem dX1_vehicleInCheck_11 : decode cX1_vehicleInCheck 11 = .ok (.getfield 15, 3) := by decide +kernel
theorem dX1_vehicleInCheck_14 : decode cX1_vehicleInCheck 14 = .ok (.iload_n 1, 1) := by decide +kernel
theorem dX1_vehicleInCheck_15 : decode cX1_vehicleInCheck 15 = .ok (.iaload, 1) := by decide +kernel
theorem dX1_vehicleInCheck_16 : decode cX1_vehicleInCheck 16 = .ok (.bipush 19, 2) := by decide +kernel
theorem dX1_vehicleInCheck_18 : decode cX1_vehicleInCheck 18 = .ok (.if_icmp .ne 14, 3) := by decide +kernel
theorem dX1_vehicleInCheck_21 : decode cX1_vehicleInCheck 21 = .ok (.aload_n 0, 1) := by decide +kernel
theorem dX1_vehicleInCheck_22 : decode cX1_vehicleInCheck 22 = .ok (.getfield 25, 3) := by decide +kernel
theorem dX1_vehicleInCheck_25 : decode cX1_vehicleInCheck 25 = .ok (.iload_n 1, 1) := by decide +kernel
theorem dX1_vehicleInCheck_26 : decode cX1_vehicleInCheck 26 = .ok (.baload, 1) := by decide +kernel
theorem dX1_vehicleInCheck_27 : decode cX1_vehicleInCheck 27 = .ok (.ifCond .ne 5, 3) := by decide +kernel
theorem dX1_vehicleInCheck_30 : decode cX1_vehicleInCheck 30 = .ok (.iload_n 1, 1) := by decide +kernel
theorem dX1_vehicleInCheck_31 : decode cX1_vehicleInCheck 31 = .ok (.ireturn, 1) := by decide +kernel
theorem dX1_vehicleInCheck_32 : decode cX1_vehicleInCheck 32 = .ok (.iinc 1 1, 3) := by decide +kernel
theorem dX1_vehicleInCheck_35 : decode cX1_vehicleInCheck 35 = .ok (.goto (-33), 3) := by decide +kernel
theorem dX1_vehicleInCheck_38 : decode cX1_vehicleInCheck 38 = .ok (.iconst (-1), 1) := by decide +kernel
theorem dX1_vehicleInCheck_39 : decode cX1_vehicleInCheck 39 = .ok (.ireturn, 1) := by decide +kernel
theorem dX1_moveArm_0 : decode cX1_moveArm 0 = .ok (.aload_n 0, 1) := by decide +kernel
theorem dX1_moveArm_1 : decode cX1_moveArm 1 = .ok (.iload_n 1, 1) := by decide +kernel
theorem dX1_moveArm_2 : decode cX1_moveArm 2 = .ok (.ifCond .eq 16, 3) := by decide +kernel
theorem dX1_moveArm_5 : decode cX1_moveArm 5 = .ok (.iconst 4, 1) := by decide +kernel
theorem dX1_moveArm_6 : decode cX1_moveArm 6 = .ok (.aload_n 0, 1) := by decide +kernel
theorem dX1_moveArm_7 : decode cX1_moveArm 7 = .ok (.getfield 35, 3) := by decide +kernel
theorem dX1_moveArm_10 : decode cX1_moveArm 10 = .ok (.iconst 1, 1) := by decide +kernel
theorem dX1_moveArm_11 : decode cX1_moveArm 11 = .ok (.iadd, 1) := by decide +kernel
theorem dX1_moveArm_12 : decode cX1_moveArm 12 = .ok (.invokestatic 77, 3) := by decide +kernel
theorem dX1_moveArm_15 : decode cX1_moveArm 15 = .ok (.goto 13, 3) := by decide +kernel
theorem dX1_moveArm_18 : decode cX1_moveArm 18 = .ok (.iconst 0, 1) := by decide +kernel
theorem dX1_moveArm_19 : decode cX1_moveArm 19 = .ok (.aload_n 0, 1) := by decide +kernel
theorem dX1_moveArm_20 : decode cX1_moveArm 20 = .ok (.getfield 35, 3) := by decide +kernel
theorem dX1_moveArm_23 : decode cX1_moveArm 23 = .ok (.iconst 1, 1) := by decide +kernel
theorem dX1_moveArm_24 : decode cX1_moveArm 24 = .ok (.isub, 1) := by decide +kernel
theorem dX1_moveArm_25 : decode cX1_moveArm 25 = .ok (.invokestatic 114, 3) := by decide +kernel
theorem dX1_moveArm_28 : decode cX1_moveArm 28 = .ok (.putfield 35, 3) := by decide +kernel
theorem dX1_moveArm_31 : decode cX1_moveArm 31 = .ok (.aload_n 0, 1) := by decide +kernel
theorem dX1_moveArm_32 : decode cX1_moveArm 32 = .ok (.getfield 35, 3) := by decide +kernel
theorem dX1_moveArm_35 : decode cX1_moveArm 35 = .ok (.iconst 4, 1) := by decide +kernel
theorem dX1_moveArm_36 : decode cX1_moveArm 36 = .ok (.if_icmp .ne 17, 3) := by decide +kernel
theorem dX1_moveArm_39 : decode cX1_moveArm 39 = .ok (.aload_n 0, 1) := by decide +kernel
theorem dX1_moveArm_40 : decode cX1_moveArm 40 = .ok (.iconst 0, 1) := by decide +kernel
theorem dX1_moveArm_41 : decode cX1_moveArm 41 = .ok (.aload_n 0, 1) := by decide +kernel
theorem dX1_moveArm_42 : decode cX1_moveArm 42 = .ok (.getfield 38, 3) := by decide +kernel
theorem dX1_moveArm_45 : decode cX1_moveArm 45 = .ok (.iconst 1, 1) := by decide +kernel
theorem dX1_moveArm_46 : decode cX1_moveArm 46 = .ok (.isub, 1) := by decide +kernel
theorem dX1_moveArm_47 : decode cX1_moveArm 47 = .ok (.invokestatic 114, 3) := by decide +kernel
theorem dX1_moveArm_50 : decode cX1_moveArm 50 = .ok (.putfield 38, 3) := by decide +kernel
theorem dX1_moveArm_53 : decode cX1_moveArm 53 = .ok (.return_, 1) := by decide +kernel
theorem dX1_reason_0 : decode cX1_reason 0 = .ok (.aload_n 0, 1) := by decide +kernel
theorem dX1_reason_1 : decode cX1_reason 1 = .ok (.getfield 51, 3) := by decide +kernel
theorem dX1_reason_4 : decode cX1_reason 4 = .ok (.ifCond .eq 5, 3) := by decide +kernel
theorem dX1_reason_7 : decode cX1_reason 7 = .ok (.iconst 4, 1) := by decide +kernel
theorem dX1_reason_8 : decode cX1_reason 8 = .ok (.ireturn, 1) := by decide +kernel
theorem dX1_reason_9 : decode cX1_reason 9 = .ok (.aload_n 0, 1) := by decide +kernel
theorem dX1_reason_10 : decode cX1_reason 10 = .ok (.invokevirtual 117, 3) := by decide +kernel
theorem dX1_reason_13 : decode cX1_reason 13 = .ok (.ifCond .eq 5, 3) := by decide +kernel
theorem dX1_reason_16 : decode cX1_reason 16 = .ok (.iconst 1, 1) := by decide +kernel
theorem dX1_reason_17 : decode cX1_reason 17 = .ok (.ireturn, 1) := by decide +kernel
theorem dX1_reason_18 : decode cX1_reason 18 = .ok (.aload_n 0, 1) := by decide +kernel
theorem dX1_reason_19 : decode cX1_reason 19 = .ok (.getfield 47, 3) := by decide +kernel
theorem dX1_reason_22 : decode cX1_reason 22 = .ok (.ifCond .ne 12, 3) := by decide +kernel
theorem dX1_reason_25 : decode cX1_reason 25 = .ok (.aload_n 0, 1) := by decide +kernel
theorem dX1_reason_26 : decode cX1_reason 26 = .ok (.invokevirtual 121, 3) := by decide +kernel
theorem dX1_reason_29 : decode cX1_reason 29 = .ok (.ifCond .eq 5, 3) := by decide +kernel
theorem dX1_reason_32 : decode cX1_reason 32 = .ok (.iconst 2, 1) := by decide +kernel
theorem dX1_reason_33 : decode cX1_reason 33 = .ok (.ireturn, 1) := by decide +kernel
theorem dX1_reason_34 : decode cX1_reason 34 = .ok (.aload_n 0, 1) := by decide +kernel
theorem dX1_reason_35 : decode cX1_reason 35 = .ok (.getfield 38, 3) := by decide +kernel
theorem dX1_reason_38 : decode cX1_reason 38 = .ok (.ifCond .le 7, 3) := by decide +kernel
theorem dX1_reason_41 : decode cX1_reason 41 = .ok (.iconst 3, 1) := by decide +kernel
theorem dX1_reason_42 : decode cX1_reason 42 = .ok (.goto 4, 3) := by decide +kernel
theorem dX1_reason_45 : decode cX1_reason 45 = .ok (.iconst 0, 1) := by decide +kernel
theorem dX1_reason_46 : decode cX1_reason 46 = .ok (.ireturn, 1) := by decide +kernel
theorem dX1_letVehicleWaits_0 : decode cX1_letVehicleWaits 0 = .ok (.iconst 0, 1) := by decide +kernel
theorem dX1_letVehicleWaits_1 : decode cX1_letVehicleWaits 1 = .ok (.istore_n 1, 1) := by decide +kernel
theorem dX1_letVehicleWaits_2 : decode cX1_letVehicleWaits 2 = .ok (.iload_n 1, 1) := by decide +kernel
theorem dX1_letVehicleWaits_3 : decode cX1_letVehicleWaits 3 = .ok (.aload_n 0, 1) := by decide +kernel
theorem dX1_letVehicleWaits_4 : decode cX1_letVehicleWaits 4 = .ok (.getfield 31, 3) := by decide +kernel
theorem dX1_letVehicleWaits_7 : decode cX1_letVehicleWaits 7 = .ok (.if_icmp .ge 31, 3) := by decide +kernel
theorem dX1_letVehicleWaits_10 : decode cX1_letVehicleWaits 10 = .ok (.aload_n 0, 1) := by decide +kernel
theorem dX1_letVehicleWaits_11 : decode cX1_letVehicleWaits 11 = .ok (.getfield 25, 3) := by decide +kernel
theorem dX1_letVehicleWaits_14 : decode cX1_letVehicleWaits 14 = .ok (.iload_n 1, 1) := by decide +kernel
theorem dX1_letVehicleWaits_15 : decode cX1_letVehicleWaits 15 = .ok (.baload, 1) := by decide +kernel
theorem dX1_letVehicleWaits_16 : decode cX1_letVehicleWaits 16 = .ok (.ifCond .eq 16, 3) := by decide +kernel
theorem dX1_letVehicleWaits_19 : decode cX1_letVehicleWaits 19 = .ok (.aload_n 0, 1) := by decide +kernel
theorem dX1_letVehicleWaits_20 : decode cX1_letVehicleWaits 20 = .ok (.getfield 15, 3) := by decide +kernel
theorem dX1_letVehicleWaits_23 : decode cX1_letVehicleWaits 23 = .ok (.iload_n 1, 1) := by decide +kernel
theorem dX1_letVehicleWaits_24 : decode cX1_letVehicleWaits 24 = .ok (.iaload, 1) := by decide +kernel
theorem dX1_letVehicleWaits_25 : decode cX1_letVehicleWaits 25 = .ok (.bipush 19, 2) := by decide +kernel
theorem dX1_letVehicleWaits_27 : decode cX1_letVehicleWaits 27 = .ok (.if_icmp .gt 5, 3) := by decide +kernel
theorem dX1_letVehicleWaits_30 : decode cX1_letVehicleWaits 30 = .ok (.iconst 1, 1) := by decide +kernel
theorem dX1_letVehicleWaits_31 : decode cX1_letVehicleWaits 31 = .ok (.ireturn, 1) := by decide +kernel
theorem dX1_letVehicleWaits_32 : decode cX1_letVehicleWaits 32 = .ok (.iinc 1 1, 3) := by decide +kernel
theorem dX1_letVehicleWaits_35 : decode cX1_letVehicleWaits 35 = .ok (.goto (-33), 3) := by decide +kernel
theorem dX1_letVehicleWaits_38 : decode cX1_letVehicleWaits 38 = .ok (.iconst 0, 1) := by decide +kernel
theorem dX1_letVehicleWaits_39 : decode cX1_letVehicleWaits 39 = .ok (.ireturn, 1) := by decide +kernel
theorem dX1_isLoopCovered_0 : decode cX1_isLoopCovered 0 = .ok (.iconst 0, 1) := by decide +kernel
theorem dX1_isLoopCovered_1 : decode cX1_isLoopCovered 1 = .ok (.istore_n 1, 1) := by decide +kernel
theorem dX1_isLoopCovered_2 : decode cX1_isLoopCovered 2 = .ok (.iload_n 1, 1) := by decide +kernel
theorem dX1_isLoopCovered_3 : decode cX1_isLoopCovered 3 = .ok (.aload_n 0, 1) := by decide +kernel
theorem dX1_isLoopCovered_4 : decode cX1_isLoopCovered 4 = .ok (.getfield 31, 3) := by decide +kernel
theorem dX1_isLoopCovered_7 : decode cX1_isLoopCovered 7 = .ok (.if_icmp .ge 32, 3) := by decide +kernel
theorem dX1_isLoopCovered_10 : decode cX1_isLoopCovered 10 = .ok (.aload_n 0, 1) := by decide +kernel
theorem dX1_isLoopCovered_11 : decode cX1_isLoopCovered 11 = .ok (.getfield 15, 3) := by decide +kernel
theorem dX1_isLoopCovered_14 : decode cX1_isLoopCovered 14 = .ok (.iload_n 1, 1) := by decide +kernel
theorem dX1_isLoopCovered_15 : decode cX1_isLoopCovered 15 = .ok (.iaload, 1) := by decide +kernel
theorem dX1_isLoopCovered_16 : decode cX1_isLoopCovered 16 = .ok (.bipush 20, 2) := by decide +kernel
theorem dX1_isLoopCovered_18 : decode cX1_isLoopCovered 18 = .ok (.if_icmp .lt 15, 3) := by decide +kernel
theorem dX1_isLoopCovered_21 : decode cX1_isLoopCovered 21 = .ok (.aload_n 0, 1) := by decide +kernel
theorem dX1_isLoopCovered_22 : decode cX1_isLoopCovered 22 = .ok (.iload_n 1, 1) := by decide +kernel
theorem dX1_isLoopCovered_23 : decode cX1_isLoopCovered 23 = .ok (.invokevirtual 73, 3) := by decide +kernel
theorem dX1_isLoopCovered_26 : decode cX1_isLoopCovered 26 = .ok (.bipush 21, 2) := by decide +kernel
theorem dX1_isLoopCovered_28 : decode cX1_isLoopCovered 28 = .ok (.if_icmp .gt 5, 3) := by decide +kernel
theorem dX1_isLoopCovered_31 : decode cX1_isLoopCovered 31 = .ok (.iconst 1, 1) := by decide +kernel
theorem dX1_isLoopCovered_32 : decode cX1_isLoopCovered 32 = .ok (.ireturn, 1) := by decide +kernel
theorem dX1_isLoopCovered_33 : decode cX1_isLoopCovered 33 = .ok (.iinc 1 1, 3) := by decide +kernel
theorem dX1_isLoopCovered_36 : decode cX1_isLoopCovered 36 = .ok (.goto (-34), 3) := by decide +kernel
theorem dX1_isLoopCovered_39 : decode cX1_isLoopCovered 39 = .ok (.iconst 0, 1) := by decide +kernel
theorem dX1_isLoopCovered_40 : decode cX1_isLoopCovered 40 = .ok (.ireturn, 1) := by decide +kernel
theorem dX1_isUnderArm_0 : decode cX1_isUnderArm 0 = .ok (.iconst 0, 1) := by decide +kernel
theorem dX1_isUnderArm_1 : decode cX1_isUnderArm 1 = .ok (.istore_n 1, 1) := by decide +kernel
theorem dX1_isUnderArm_2 : decode cX1_isUnderArm 2 = .ok (.iload_n 1, 1) := by decide +kernel
theorem dX1_isUnderArm_3 : decode cX1_isUnderArm 3 = .ok (.aload_n 0, 1) := by decide +kernel
theorem dX1_isUnderArm_4 : decode cX1_isUnderArm 4 = .ok (.getfield 31, 3) := by decide +kernel
theorem dX1_isUnderArm_7 : decode cX1_isUnderArm 7 = .ok (.if_icmp .ge 32, 3) := by decide +kernel
theorem dX1_isUnderArm_10 : decode cX1_isUnderArm 10 = .ok (.aload_n 0, 1) := by decide +kernel
theorem dX1_isUnderArm_11 : decode cX1_isUnderArm 11 = .ok (.getfield 15, 3) := by decide +kernel
theorem dX1_isUnderArm_14 : decode cX1_isUnderArm 14 = .ok (.iload_n 1, 1) := by decide +kernel
theorem dX1_isUnderArm_15 : decode cX1_isUnderArm 15 = .ok (.iaload, 1) := by decide +kernel
theorem dX1_isUnderArm_16 : decode cX1_isUnderArm 16 = .ok (.bipush 20, 2) := by decide +kernel
theorem dX1_isUnderArm_18 : decode cX1_isUnderArm 18 = .ok (.if_icmp .lt 15, 3) := by decide +kernel
theorem dX1_isUnderArm_21 : decode cX1_isUnderArm 21 = .ok (.aload_n 0, 1) := by decide +kernel
theorem dX1_isUnderArm_22 : decode cX1_isUnderArm 22 = .ok (.iload_n 1, 1) := by decide +kernel
theorem dX1_isUnderArm_23 : decode cX1_isUnderArm 23 = .ok (.invokevirtual 73, 3) := by decide +kernel
theorem dX1_isUnderArm_26 : decode cX1_isUnderArm 26 = .ok (.bipush 20, 2) := by decide +kernel
theorem dX1_isUnderArm_28 : decode cX1_isUnderArm 28 = .ok (.if_icmp .gt 5, 3) := by decide +kernel
theorem dX1_isUnderArm_31 : decode cX1_isUnderArm 31 = .ok (.iconst 1, 1) := by decide +kernel
theorem dX1_isUnderArm_32 : decode cX1_isUnderArm 32 = .ok (.ireturn, 1) := by decide +kernel
theorem dX1_isUnderArm_33 : decode cX1_isUnderArm 33 = .ok (.iinc 1 1, 3) := by decide +kernel
theorem dX1_isUnderArm_36 : decode cX1_isUnderArm 36 = .ok (.goto (-34), 3) := by decide +kernel
theorem dX1_isUnderArm_39 : decode cX1_isUnderArm 39 = .ok (.iconst 0, 1) := by decide +kernel
theorem dX1_isUnderArm_40 : decode cX1_isUnderArm 40 = .ok (.ireturn, 1) := by decide +kernel
theorem dX1_hitIfUnderArm_0 : decode cX1_hitIfUnderArm 0 = .ok (.aload_n 0, 1) := by decide +kernel
theorem dX1_hitIfUnderArm_1 : decode cX1_hitIfUnderArm 1 = .ok (.getfield 51, 3) := by decide +kernel
theorem dX1_hitIfUnderArm_4 : decode cX1_hitIfUnderArm 4 = .ok (.ifCond .ne 33, 3) := by decide +kernel
theorem dX1_hitIfUnderArm_7 : decode cX1_hitIfUnderArm 7 = .ok (.aload_n 0, 1) := by decide +kernel
theorem dX1_hitIfUnderArm_8 : decode cX1_hitIfUnderArm 8 = .ok (.getfield 35, 3) := by decide +kernel
theorem dX1_hitIfUnderArm_11 : decode cX1_hitIfUnderArm 11 = .ok (.iconst 4, 1) := by decide +kernel
theorem dX1_hitIfUnderArm_12 : decode cX1_hitIfUnderArm 12 = .ok (.if_icmp .ge 25, 3) := by decide +kernel
theorem dX1_hitIfUnderArm_15 : decode cX1_hitIfUnderArm 15 = .ok (.aload_n 0, 1) := by decide +kernel
theorem dX1_hitIfUnderArm_16 : decode cX1_hitIfUnderArm 16 = .ok (.invokevirtual 124, 3) := by decide +kernel
theorem dX1_hitIfUnderArm_19 : decode cX1_hitIfUnderArm 19 = .ok (.ifCond .eq 18, 3) := by decide +kernel
theorem dX1_hitIfUnderArm_22 : decode cX1_hitIfUnderArm 22 = .ok (.aload_n 0, 1) := by decide +kernel
theorem dX1_hitIfUnderArm_23 : decode cX1_hitIfUnderArm 23 = .ok (.iconst 1, 1) := by decide +kernel
theorem dX1_hitIfUnderArm_24 : decode cX1_hitIfUnderArm 24 = .ok (.putfield 51, 3) := by decide +kernel
theorem dX1_hitIfUnderArm_27 : decode cX1_hitIfUnderArm 27 = .ok (.aload_n 0, 1) := by decide +kernel
theorem dX1_hitIfUnderArm_28 : decode cX1_hitIfUnderArm 28 = .ok (.dup, 1) := by decide +kernel
theorem dX1_hitIfUnderArm_29 : decode cX1_hitIfUnderArm 29 = .ok (.getfield 63, 3) := by decide +kernel
theorem dX1_hitIfUnderArm_32 : decode cX1_hitIfUnderArm 32 = .ok (.iconst 1, 1) := by decide +kernel
theorem dX1_hitIfUnderArm_33 : decode cX1_hitIfUnderArm 33 = .ok (.iadd, 1) := by decide +kernel
theorem dX1_hitIfUnderArm_34 : decode cX1_hitIfUnderArm 34 = .ok (.putfield 63, 3) := by decide +kernel
theorem dX1_hitIfUnderArm_37 : decode cX1_hitIfUnderArm 37 = .ok (.return_, 1) := by decide +kernel
theorem dX1_countThrough_0 : decode cX1_countThrough 0 = .ok (.iconst 0, 1) := by decide +kernel
theorem dX1_countThrough_1 : decode cX1_countThrough 1 = .ok (.istore_n 1, 1) := by decide +kernel
theorem dX1_countThrough_2 : decode cX1_countThrough 2 = .ok (.iload_n 1, 1) := by decide +kernel
theorem dX1_countThrough_3 : decode cX1_countThrough 3 = .ok (.aload_n 0, 1) := by decide +kernel
theorem dX1_countThrough_4 : decode cX1_countThrough 4 = .ok (.getfield 31, 3) := by decide +kernel
theorem dX1_countThrough_7 : decode cX1_countThrough 7 = .ok (.if_icmp .ge 76, 3) := by decide +kernel
theorem dX1_countThrough_10 : decode cX1_countThrough 10 = .ok (.aload_n 0, 1) := by decide +kernel
theorem dX1_countThrough_11 : decode cX1_countThrough 11 = .ok (.iload_n 1, 1) := by decide +kernel
theorem dX1_countThrough_12 : decode cX1_countThrough 12 = .ok (.invokevirtual 73, 3) := by decide +kernel
theorem dX1_countThrough_15 : decode cX1_countThrough 15 = .ok (.bipush 21, 2) := by decide +kernel
theorem dX1_countThrough_17 : decode cX1_countThrough 17 = .ok (.if_icmp .ne 60, 3) := by decide +kernel
theorem dX1_countThrough_20 : decode cX1_countThrough 20 = .ok (.aload_n 0, 1) := by decide +kernel
theorem dX1_countThrough_21 : decode cX1_countThrough 21 = .ok (.getfield 25, 3) := by decide +kernel
theorem dX1_countThrough_24 : decode cX1_countThrough 24 = .ok (.iload_n 1, 1) := by decide +kernel
theorem dX1_countThrough_25 : decode cX1_countThrough 25 = .ok (.baload, 1) := by decide +kernel
theorem dX1_countThrough_26 : decode cX1_countThrough 26 = .ok (.ifCond .eq 41, 3) := by decide +kernel
theorem dX1_countThrough_29 : decode cX1_countThrough 29 = .ok (.aload_n 0, 1) := by decide +kernel
theorem dX1_countThrough_30 : decode cX1_countThrough 30 = .ok (.dup, 1) := by decide +kernel
theorem dX1_countThrough_31 : decode cX1_countThrough 31 = .ok (.getfield 57, 3) := by decide +kernel
theorem dX1_countThrough_34 : decode cX1_countThrough 34 = .ok (.iconst 1, 1) := by decide +kernel
theorem dX1_countThrough_35 : decode cX1_countThrough 35 = .ok (.iadd, 1) := by decide +kernel
theorem dX1_countThrough_36 : decode cX1_countThrough 36 = .ok (.putfield 57, 3) := by decide +kernel
theorem dX1_countThrough_39 : decode cX1_countThrough 39 = .ok (.aload_n 0, 1) := by decide +kernel
theorem dX1_countThrough_40 : decode cX1_countThrough 40 = .ok (.dup, 1) := by decide +kernel
theorem dX1_countThrough_41 : decode cX1_countThrough 41 = .ok (.getfield 41, 3) := by decide +kernel
theorem dX1_countThrough_44 : decode cX1_countThrough 44 = .ok (.bipush 8, 2) := by decide +kernel
theorem dX1_countThrough_46 : decode cX1_countThrough 46 = .ok (.aload_n 0, 1) := by decide +kernel
theorem dX1_countThrough_47 : decode cX1_countThrough 47 = .ok (.getfield 9, 3) := by decide +kernel
theorem dX1_countThrough_50 : decode cX1_countThrough 50 = .ok (.iload_n 1, 1) := by decide +kernel
theorem dX1_countThrough_51 : decode cX1_countThrough 51 = .ok (.iaload, 1) := by decide +kernel
theorem dX1_countThrough_52 : decode cX1_countThrough 52 = .ok (.imul, 1) := by decide +kernel
theorem dX1_countThrough_53 : decode cX1_countThrough 53 = .ok (.aload_n 0, 1) := by decide +kernel
theorem dX1_countThrough_54 : decode cX1_countThrough 54 = .ok (.getfield 41, 3) := by decide +kernel
theorem dX1_countThrough_57 : decode cX1_countThrough 57 = .ok (.isub, 1) := by decide +kernel
theorem dX1_countThrough_58 : decode cX1_countThrough 58 = .ok (.iconst 4, 1) := by decide +kernel
theorem dX1_countThrough_59 : decode cX1_countThrough 59 = .ok (.idiv, 1) := by decide +kernel
theorem dX1_countThrough_60 : decode cX1_countThrough 60 = .ok (.iadd, 1) := by decide +kernel
theorem dX1_countThrough_61 : decode cX1_countThrough 61 = .ok (.putfield 41, 3) := by decide +kernel
theorem dX1_countThrough_64 : decode cX1_countThrough 64 = .ok (.goto 13, 3) := by decide +kernel
theorem dX1_countThrough_67 : decode cX1_countThrough 67 = .ok (.aload_n 0, 1) := by decide +kernel
theorem dX1_countThrough_68 : decode cX1_countThrough 68 = .ok (.dup, 1) := by decide +kernel
theorem dX1_countThrough_69 : decode cX1_countThrough 69 = .ok (.getfield 60, 3) := by decide +kernel
theorem dX1_countThrough_72 : decode cX1_countThrough 72 = .ok (.iconst 1, 1) := by decide +kernel
theorem dX1_countThrough_73 : decode cX1_countThrough 73 = .ok (.iadd, 1) := by decide +kernel
theorem dX1_countThrough_74 : decode cX1_countThrough 74 = .ok (.putfield 60, 3) := by decide +kernel
theorem dX1_countThrough_77 : decode cX1_countThrough 77 = .ok (.iinc 1 1, 3) := by decide +kernel
theorem dX1_countThrough_80 : decode cX1_countThrough 80 = .ok (.goto (-78), 3) := by decide +kernel
theorem dX1_countThrough_83 : decode cX1_countThrough 83 = .ok (.return_, 1) := by decide +kernel
theorem dX1_hasGoneThrough_0 : decode cX1_hasGoneThrough 0 = .ok (.aload_n 0, 1) := by decide +kernel
theorem dX1_hasGoneThrough_1 : decode cX1_hasGoneThrough 1 = .ok (.iload_n 1, 1) := by decide +kernel
theorem dX1_hasGoneThrough_2 : decode cX1_hasGoneThrough 2 = .ok (.invokevirtual 127, 3) := by decide +kernel
theorem dX1_hasGoneThrough_5 : decode cX1_hasGoneThrough 5 = .ok (.ifCond .eq 17, 3) := by decide +kernel
theorem dX1_hasGoneThrough_8 : decode cX1_hasGoneThrough 8 = .ok (.aload_n 0, 1) := by decide +kernel
theorem dX1_hasGoneThrough_9 : decode cX1_hasGoneThrough 9 = .ok (.iload_n 1, 1) := by decide +kernel
theorem dX1_hasGoneThrough_10 : decode cX1_hasGoneThrough 10 = .ok (.invokevirtual 73, 3) := by decide +kernel
theorem dX1_hasGoneThrough_13 : decode cX1_hasGoneThrough 13 = .ok (.bipush 21, 2) := by decide +kernel
theorem dX1_hasGoneThrough_15 : decode cX1_hasGoneThrough 15 = .ok (.if_icmp .lt 7, 3) := by decide +kernel
theorem dX1_hasGoneThrough_18 : decode cX1_hasGoneThrough 18 = .ok (.iconst 1, 1) := by decide +kernel
theorem dX1_hasGoneThrough_19 : decode cX1_hasGoneThrough 19 = .ok (.goto 4, 3) := by decide +kernel
theorem dX1_hasGoneThrough_22 : decode cX1_hasGoneThrough 22 = .ok (.iconst 0, 1) := by decide +kernel
theorem dX1_hasGoneThrough_23 : decode cX1_hasGoneThrough 23 = .ok (.ireturn, 1) := by decide +kernel
theorem dX1_canBeMended_0 : decode cX1_canBeMended 0 = .ok (.aload_n 0, 1) := by decide +kernel
theorem dX1_canBeMended_1 : decode cX1_canBeMended 1 = .ok (.getfield 51, 3) := by decide +kernel
theorem dX1_canBeMended_4 : decode cX1_canBeMended 4 = .ok (.ifCond .eq 14, 3) := by decide +kernel
theorem dX1_canBeMended_7 : decode cX1_canBeMended 7 = .ok (.aload_n 0, 1) := by decide +kernel
theorem dX1_canBeMended_8 : decode cX1_canBeMended 8 = .ok (.invokevirtual 124, 3) := by decide +kernel
theorem dX1_canBeMended_11 : decode cX1_canBeMended 11 = .ok (.ifCond .ne 7, 3) := by decide +kernel
theorem dX1_canBeMended_14 : decode cX1_canBeMended 14 = .ok (.iconst 1, 1) := by decide +kernel
theorem dX1_canBeMended_15 : decode cX1_canBeMended 15 = .ok (.goto 4, 3) := by decide +kernel
theorem dX1_canBeMended_18 : decode cX1_canBeMended 18 = .ok (.iconst 0, 1) := by decide +kernel
theorem dX1_canBeMended_19 : decode cX1_canBeMended 19 = .ok (.ireturn, 1) := by decide +kernel
theorem dX1_countUnlet_0 : decode cX1_countUnlet 0 = .ok (.iconst 0, 1) := by decide +kernel
theorem dX1_countUnlet_1 : decode cX1_countUnlet 1 = .ok (.istore_n 1, 1) := by decide +kernel
theorem dX1_countUnlet_2 : decode cX1_countUnlet 2 = .ok (.iconst 0, 1) := by decide +kernel
theorem dX1_countUnlet_3 : decode cX1_countUnlet 3 = .ok (.istore_n 2, 1) := by decide +kernel
theorem dX1_countUnlet_4 : decode cX1_countUnlet 4 = .ok (.iload_n 2, 1) := by decide +kernel
theorem dX1_countUnlet_5 : decode cX1_countUnlet 5 = .ok (.aload_n 0, 1) := by decide +kernel
theorem dX1_countUnlet_6 : decode cX1_countUnlet 6 = .ok (.getfield 31, 3) := by decide +kernel
theorem dX1_countUnlet_9 : decode cX1_countUnlet 9 = .ok (.if_icmp .ge 32, 3) := by decide +kernel
theorem dX1_countUnlet_12 : decode cX1_countUnlet 12 = .ok (.aload_n 0, 1) := by decide +kernel
theorem dX1_countUnlet_13 : decode cX1_countUnlet 13 = .ok (.getfield 25, 3) := by decide +kernel
theorem dX1_countUnlet_16 : decode cX1_countUnlet 16 = .ok (.iload_n 2, 1) := by decide +kernel
theorem dX1_countUnlet_17 : decode cX1_countUnlet 17 = .ok (.baload, 1) := by decide +kernel
theorem dX1_countUnlet_18 : decode cX1_countUnlet 18 = .ok (.ifCond .ne 17, 3) := by decide +kernel
theorem dX1_countUnlet_21 : decode cX1_countUnlet 21 = .ok (.aload_n 0, 1) := by decide +kernel
theorem dX1_countUnlet_22 : decode cX1_countUnlet 22 = .ok (.getfield 15, 3) := by decide +kernel
theorem dX1_countUnlet_25 : decode cX1_countUnlet 25 = .ok (.iload_n 2, 1) := by decide +kernel
theorem dX1_countUnlet_26 : decode cX1_countUnlet 26 = .ok (.iaload, 1) := by decide +kernel
theorem dX1_countUnlet_27 : decode cX1_countUnlet 27 = .ok (.bipush 19, 2) := by decide +kernel
theorem dX1_countUnlet_29 : decode cX1_countUnlet 29 = .ok (.if_icmp .gt 6, 3) := by decide +kernel
theorem dX1_countUnlet_32 : decode cX1_countUnlet 32 = .ok (.iinc 1 1, 3) := by decide +kernel
theorem dX1_countUnlet_35 : decode cX1_countUnlet 35 = .ok (.iinc 2 1, 3) := by decide +kernel
theorem dX1_countUnlet_38 : decode cX1_countUnlet 38 = .ok (.goto (-34), 3) := by decide +kernel
theorem dX1_countUnlet_41 : decode cX1_countUnlet 41 = .ok (.iload_n 1, 1) := by decide +kernel
theorem dX1_countUnlet_42 : decode cX1_countUnlet 42 = .ok (.ireturn, 1) := by decide +kernel
theorem dX1_number_0 : decode cX1_number 0 = .ok (.iload_n 1, 1) := by decide +kernel
theorem dX1_number_1 : decode cX1_number 1 = .ok (.tableswitch 94 0 6 #[43, 48, 53, 58, 63, 76, 89], 43) := by decide +kernel
theorem dX1_number_44 : decode cX1_number 44 = .ok (.aload_n 0, 1) := by decide +kernel
theorem dX1_number_45 : decode cX1_number 45 = .ok (.getfield 31, 3) := by decide +kernel
theorem dX1_number_48 : decode cX1_number 48 = .ok (.ireturn, 1) := by decide +kernel
theorem dX1_number_49 : decode cX1_number 49 = .ok (.aload_n 0, 1) := by decide +kernel
theorem dX1_number_50 : decode cX1_number 50 = .ok (.getfield 35, 3) := by decide +kernel
theorem dX1_number_53 : decode cX1_number 53 = .ok (.ireturn, 1) := by decide +kernel
theorem dX1_number_54 : decode cX1_number 54 = .ok (.aload_n 0, 1) := by decide +kernel
theorem dX1_number_55 : decode cX1_number 55 = .ok (.getfield 38, 3) := by decide +kernel
theorem dX1_number_58 : decode cX1_number 58 = .ok (.ireturn, 1) := by decide +kernel
theorem dX1_number_59 : decode cX1_number 59 = .ok (.aload_n 0, 1) := by decide +kernel
theorem dX1_number_60 : decode cX1_number 60 = .ok (.getfield 41, 3) := by decide +kernel
theorem dX1_number_63 : decode cX1_number 63 = .ok (.ireturn, 1) := by decide +kernel
theorem dX1_number_64 : decode cX1_number 64 = .ok (.aload_n 0, 1) := by decide +kernel
theorem dX1_number_65 : decode cX1_number 65 = .ok (.getfield 47, 3) := by decide +kernel
theorem dX1_number_68 : decode cX1_number 68 = .ok (.ifCond .eq 7, 3) := by decide +kernel
theorem dX1_number_71 : decode cX1_number 71 = .ok (.iconst 1, 1) := by decide +kernel
theorem dX1_number_72 : decode cX1_number 72 = .ok (.goto 4, 3) := by decide +kernel
theorem dX1_number_75 : decode cX1_number 75 = .ok (.iconst 0, 1) := by decide +kernel
theorem dX1_number_76 : decode cX1_number 76 = .ok (.ireturn, 1) := by decide +kernel
theorem dX1_number_77 : decode cX1_number 77 = .ok (.aload_n 0, 1) := by decide +kernel
theorem dX1_number_78 : decode cX1_number 78 = .ok (.getfield 51, 3) := by decide +kernel
theorem dX1_number_81 : decode cX1_number 81 = .ok (.ifCond .eq 7, 3) := by decide +kernel
theorem dX1_number_84 : decode cX1_number 84 = .ok (.iconst 1, 1) := by decide +kernel
theorem dX1_number_85 : decode cX1_number 85 = .ok (.goto 4, 3) := by decide +kernel
theorem dX1_number_88 : decode cX1_number 88 = .ok (.iconst 0, 1) := by decide +kernel
theorem dX1_number_89 : decode cX1_number 89 = .ok (.ireturn, 1) := by decide +kernel
theorem dX1_number_90 : decode cX1_number 90 = .ok (.aload_n 0, 1) := by decide +kernel
theorem dX1_number_91 : decode cX1_number 91 = .ok (.getfield 44, 3) := by decide +kernel
theorem dX1_number_94 : decode cX1_number 94 = .ok (.ireturn, 1) := by decide +kernel
theorem dX1_number_95 : decode cX1_number 95 = .ok (.aload_n 0, 1) := by decide +kernel
theorem dX1_number_96 : decode cX1_number 96 = .ok (.invokevirtual 130, 3) := by decide +kernel
theorem dX1_number_99 : decode cX1_number 99 = .ok (.ireturn, 1) := by decide +kernel
theorem dX1_numberOfVehicle_0 : decode cX1_numberOfVehicle 0 = .ok (.aload_n 0, 1) := by decide +kernel
theorem dX1_numberOfVehicle_1 : decode cX1_numberOfVehicle 1 = .ok (.iload_n 1, 1) := by decide +kernel
theorem dX1_numberOfVehicle_2 : decode cX1_numberOfVehicle 2 = .ok (.invokevirtual 127, 3) := by decide +kernel
theorem dX1_numberOfVehicle_5 : decode cX1_numberOfVehicle 5 = .ok (.ifCond .ne 5, 3) := by decide +kernel
theorem dX1_numberOfVehicle_8 : decode cX1_numberOfVehicle 8 = .ok (.iconst (-1), 1) := by decide +kernel
theorem dX1_numberOfVehicle_9 : decode cX1_numberOfVehicle 9 = .ok (.ireturn, 1) := by decide +kernel
theorem dX1_numberOfVehicle_10 : decode cX1_numberOfVehicle 10 = .ok (.iload_n 2, 1) := by decide +kernel
theorem dX1_numberOfVehicle_11 : decode cX1_numberOfVehicle 11 = .ok (.tableswitch 73 0 3 #[29, 36, 43, 58], 29) := by decide +kernel
theorem dX1_numberOfVehicle_40 : decode cX1_numberOfVehicle 40 = .ok (.aload_n 0, 1) := by decide +kernel
theorem dX1_numberOfVehicle_41 : decode cX1_numberOfVehicle 41 = .ok (.getfield 9, 3) := by decide +kernel
theorem dX1_numberOfVehicle_44 : decode cX1_numberOfVehicle 44 = .ok (.iload_n 1, 1) := by decide +kernel
theorem dX1_numberOfVehicle_45 : decode cX1_numberOfVehicle 45 = .ok (.iaload, 1) := by decide +kernel
theorem dX1_numberOfVehicle_46 : decode cX1_numberOfVehicle 46 = .ok (.ireturn, 1) := by decide +kernel
theorem dX1_numberOfVehicle_47 : decode cX1_numberOfVehicle 47 = .ok (.aload_n 0, 1) := by decide +kernel
theorem dX1_numberOfVehicle_48 : decode cX1_numberOfVehicle 48 = .ok (.getfield 15, 3) := by decide +kernel
theorem dX1_numberOfVehicle_51 : decode cX1_numberOfVehicle 51 = .ok (.iload_n 1, 1) := by decide +kernel
theorem dX1_numberOfVehicle_52 : decode cX1_numberOfVehicle 52 = .ok (.iaload, 1) := by decide +kernel
theorem dX1_numberOfVehicle_53 : decode cX1_numberOfVehicle 53 = .ok (.ireturn, 1) := by decide +kernel
theorem dX1_numberOfVehicle_54 : decode cX1_numberOfVehicle 54 = .ok (.aload_n 0, 1) := by decide +kernel
theorem dX1_numberOfVehicle_55 : decode cX1_numberOfVehicle 55 = .ok (.getfield 18, 3) := by decide +kernel
theorem dX1_numberOfVehicle_58 : decode cX1_numberOfVehicle 58 = .ok (.iload_n 1, 1) := by decide +kernel
theorem dX1_numberOfVehicle_59 : decode cX1_numberOfVehicle 59 = .ok (.baload, 1) := by decide +kernel
theorem dX1_numberOfVehicle_60 : decode cX1_numberOfVehicle 60 = .ok (.ifCond .eq 7, 3) := by decide +kernel
theorem dX1_numberOfVehicle_63 : decode cX1_numberOfVehicle 63 = .ok (.iconst 1, 1) := by decide +kernel
theorem dX1_numberOfVehicle_64 : decode cX1_numberOfVehicle 64 = .ok (.goto 4, 3) := by decide +kernel
theorem dX1_numberOfVehicle_67 : decode cX1_numberOfVehicle 67 = .ok (.iconst 0, 1) := by decide +kernel
theorem dX1_numberOfVehicle_68 : decode cX1_numberOfVehicle 68 = .ok (.ireturn, 1) := by decide +kernel
theorem dX1_numberOfVehicle_69 : decode cX1_numberOfVehicle 69 = .ok (.aload_n 0, 1) := by decide +kernel
theorem dX1_numberOfVehicle_70 : decode cX1_numberOfVehicle 70 = .ok (.getfield 22, 3) := by decide +kernel
theorem dX1_numberOfVehicle_73 : decode cX1_numberOfVehicle 73 = .ok (.iload_n 1, 1) := by decide +kernel
theorem dX1_numberOfVehicle_74 : decode cX1_numberOfVehicle 74 = .ok (.baload, 1) := by decide +kernel
theorem dX1_numberOfVehicle_75 : decode cX1_numberOfVehicle 75 = .ok (.ifCond .eq 7, 3) := by decide +kernel
theorem dX1_numberOfVehicle_78 : decode cX1_numberOfVehicle 78 = .ok (.iconst 1, 1) := by decide +kernel
theorem dX1_numberOfVehicle_79 : decode cX1_numberOfVehicle 79 = .ok (.goto 4, 3) := by decide +kernel
theorem dX1_numberOfVehicle_82 : decode cX1_numberOfVehicle 82 = .ok (.iconst 0, 1) := by decide +kernel
theorem dX1_numberOfVehicle_83 : decode cX1_numberOfVehicle 83 = .ok (.ireturn, 1) := by decide +kernel
theorem dX1_numberOfVehicle_84 : decode cX1_numberOfVehicle 84 = .ok (.aload_n 0, 1) := by decide +kernel
theorem dX1_numberOfVehicle_85 : decode cX1_numberOfVehicle 85 = .ok (.getfield 25, 3) := by decide +kernel
theorem dX1_numberOfVehicle_88 : decode cX1_numberOfVehicle 88 = .ok (.iload_n 1, 1) := by decide +kernel
theorem dX1_numberOfVehicle_89 : decode cX1_numberOfVehicle 89 = .ok (.baload, 1) := by decide +kernel
theorem dX1_numberOfVehicle_90 : decode cX1_numberOfVehicle 90 = .ok (.ifCond .eq 7, 3) := by decide +kernel
theorem dX1_numberOfVehicle_93 : decode cX1_numberOfVehicle 93 = .ok (.iconst 1, 1) := by decide +kernel
theorem dX1_numberOfVehicle_94 : decode cX1_numberOfVehicle 94 = .ok (.goto 4, 3) := by decide +kernel
theorem dX1_numberOfVehicle_97 : decode cX1_numberOfVehicle 97 = .ok (.iconst 0, 1) := by decide +kernel
theorem dX1_numberOfVehicle_98 : decode cX1_numberOfVehicle 98 = .ok (.ireturn, 1) := by decide +kernel
theorem dX1_tally_0 : decode cX1_tally 0 = .ok (.iload_n 1, 1) := by decide +kernel
theorem dX1_tally_1 : decode cX1_tally 1 = .ok (.tableswitch 103 2 9 #[47, 52, 57, 62, 67, 72, 85, 98], 47) := by decide +kernel
theorem dX1_tally_48 : decode cX1_tally 48 = .ok (.aload_n 0, 1) := by decide +kernel
theorem dX1_tally_49 : decode cX1_tally 49 = .ok (.getfield 31, 3) := by decide +kernel
theorem dX1_tally_52 : decode cX1_tally 52 = .ok (.ireturn, 1) := by decide +kernel
theorem dX1_tally_53 : decode cX1_tally 53 = .ok (.aload_n 0, 1) := by decide +kernel
theorem dX1_tally_54 : decode cX1_tally 54 = .ok (.getfield 54, 3) := by decide +kernel
theorem dX1_tally_57 : decode cX1_tally 57 = .ok (.ireturn, 1) := by decide +kernel
theorem dX1_tally_58 : decode cX1_tally 58 = .ok (.aload_n 0, 1) := by decide +kernel
theorem dX1_tally_59 : decode cX1_tally 59 = .ok (.getfield 57, 3) := by decide +kernel
theorem dX1_tally_62 : decode cX1_tally 62 = .ok (.ireturn, 1) := by decide +kernel
theorem dX1_tally_63 : decode cX1_tally 63 = .ok (.aload_n 0, 1) := by decide +kernel
theorem dX1_tally_64 : decode cX1_tally 64 = .ok (.getfield 60, 3) := by decide +kernel
theorem dX1_tally_67 : decode cX1_tally 67 = .ok (.ireturn, 1) := by decide +kernel
theorem dX1_tally_68 : decode cX1_tally 68 = .ok (.aload_n 0, 1) := by decide +kernel
theorem dX1_tally_69 : decode cX1_tally 69 = .ok (.getfield 63, 3) := by decide +kernel
theorem dX1_tally_72 : decode cX1_tally 72 = .ok (.ireturn, 1) := by decide +kernel
theorem dX1_tally_73 : decode cX1_tally 73 = .ok (.aload_n 0, 1) := by decide +kernel
theorem dX1_tally_74 : decode cX1_tally 74 = .ok (.getfield 51, 3) := by decide +kernel
theorem dX1_tally_77 : decode cX1_tally 77 = .ok (.ifCond .eq 7, 3) := by decide +kernel
theorem dX1_tally_80 : decode cX1_tally 80 = .ok (.iconst 1, 1) := by decide +kernel
theorem dX1_tally_81 : decode cX1_tally 81 = .ok (.goto 4, 3) := by decide +kernel
theorem dX1_tally_84 : decode cX1_tally 84 = .ok (.iconst 0, 1) := by decide +kernel
theorem dX1_tally_85 : decode cX1_tally 85 = .ok (.ireturn, 1) := by decide +kernel
theorem dX1_tally_86 : decode cX1_tally 86 = .ok (.aload_n 0, 1) := by decide +kernel
theorem dX1_tally_87 : decode cX1_tally 87 = .ok (.getfield 47, 3) := by decide +kernel
theorem dX1_tally_90 : decode cX1_tally 90 = .ok (.ifCond .eq 7, 3) := by decide +kernel
theorem dX1_tally_93 : decode cX1_tally 93 = .ok (.iconst 1, 1) := by decide +kernel
theorem dX1_tally_94 : decode cX1_tally 94 = .ok (.goto 4, 3) := by decide +kernel
theorem dX1_tally_97 : decode cX1_tally 97 = .ok (.iconst 0, 1) := by decide +kernel
theorem dX1_tally_98 : decode cX1_tally 98 = .ok (.ireturn, 1) := by decide +kernel
theorem dX1_tally_99 : decode cX1_tally 99 = .ok (.aload_n 0, 1) := by decide +kernel
theorem dX1_tally_100 : decode cX1_tally 100 = .ok (.getfield 66, 3) := by decide +kernel
theorem dX1_tally_103 : decode cX1_tally 103 = .ok (.ireturn, 1) := by decide +kernel
theorem dX1_tally_104 : decode cX1_tally 104 = .ok (.iconst 0, 1) := by decide +kernel
theorem dX1_tally_105 : decode cX1_tally 105 = .ok (.ireturn, 1) := by decide +kernel
theorem dX2_init_0 : decode cX2_init 0 = .ok (.aload_n 0, 1) := by decide +kernel
theorem dX2_init_1 : decode cX2_init 1 = .ok (.invokespecial 1, 3) := by decide +kernel
theorem dX2_init_4 : decode cX2_init 4 = .ok (.aload_n 0, 1) := by decide +kernel
theorem dX2_init_5 : decode cX2_init 5 = .ok (.bipush 120, 2) := by decide +kernel
theorem dX2_init_7 : decode cX2_init 7 = .ok (.newarray .char, 2) := by decide +kernel
theorem dX2_init_9 : decode cX2_init 9 = .ok (.putfield 9, 3) := by decide +kernel
theorem dX2_init_12 : decode cX2_init 12 = .ok (.aload_n 0, 1) := by decide +kernel
theorem dX2_init_13 : decode cX2_init 13 = .ok (.iconst 0, 1) := by decide +kernel
theorem dX2_init_14 : decode cX2_init 14 = .ok (.putfield 13, 3) := by decide +kernel
theorem dX2_init_17 : decode cX2_init 17 = .ok (.aload_n 0, 1) := by decide +kernel
theorem dX2_init_18 : decode cX2_init 18 = .ok (.new 17, 3) := by decide +kernel
theorem dX2_init_21 : decode cX2_init 21 = .ok (.dup, 1) := by decide +kernel
theorem dX2_init_22 : decode cX2_init 22 = .ok (.invokespecial 19, 3) := by decide +kernel
theorem dX2_init_25 : decode cX2_init 25 = .ok (.putfield 20, 3) := by decide +kernel
theorem dX2_init_28 : decode cX2_init 28 = .ok (.aload_n 0, 1) := by decide +kernel
theorem dX2_init_29 : decode cX2_init 29 = .ok (.new 17, 3) := by decide +kernel
theorem dX2_init_32 : decode cX2_init 32 = .ok (.dup, 1) := by decide +kernel
theorem dX2_init_33 : decode cX2_init 33 = .ok (.invokespecial 19, 3) := by decide +kernel
theorem dX2_init_36 : decode cX2_init 36 = .ok (.putfield 24, 3) := by decide +kernel
theorem dX2_init_39 : decode cX2_init 39 = .ok (.aload_n 0, 1) := by decide +kernel
theorem dX2_init_40 : decode cX2_init 40 = .ok (.bipush 14, 2) := by decide +kernel
theorem dX2_init_42 : decode cX2_init 42 = .ok (.anewarray 17, 3) := by decide +kernel
theorem dX2_init_45 : decode cX2_init 45 = .ok (.putfield 27, 3) := by decide +kernel
theorem dX2_init_48 : decode cX2_init 48 = .ok (.aload_n 0, 1) := by decide +kernel
theorem dX2_init_49 : decode cX2_init 49 = .ok (.iconst 0, 1) := by decide +kernel
theorem dX2_init_50 : decode cX2_init 50 = .ok (.putfield 31, 3) := by decide +kernel
theorem dX2_init_53 : decode cX2_init 53 = .ok (.aload_n 0, 1) := by decide +kernel
theorem dX2_init_54 : decode cX2_init 54 = .ok (.iconst 0, 1) := by decide +kernel
theorem dX2_init_55 : decode cX2_init 55 = .ok (.putfield 34, 3) := by decide +kernel
theorem dX2_init_58 : decode cX2_init 58 = .ok (.aload_n 0, 1) := by decide +kernel
theorem dX2_init_59 : decode cX2_init 59 = .ok (.iconst 2, 1) := by decide +kernel
theorem dX2_init_60 : decode cX2_init 60 = .ok (.anewarray 17, 3) := by decide +kernel
theorem dX2_init_63 : decode cX2_init 63 = .ok (.putfield 37, 3) := by decide +kernel
theorem dX2_init_66 : decode cX2_init 66 = .ok (.aload_n 0, 1) := by decide +kernel
theorem dX2_init_67 : decode cX2_init 67 = .ok (.iconst 2, 1) := by decide +kernel
theorem dX2_init_68 : decode cX2_init 68 = .ok (.newarray .boolean, 2) := by decide +kernel
theorem dX2_init_70 : decode cX2_init 70 = .ok (.putfield 40, 3) := by decide +kernel
theorem dX2_init_73 : decode cX2_init 73 = .ok (.iconst 0, 1) := by decide +kernel
theorem dX2_init_74 : decode cX2_init 74 = .ok (.istore_n 1, 1) := by decide +kernel
theorem dX2_init_75 : decode cX2_init 75 = .ok (.iload_n 1, 1) := by decide +kernel
theorem dX2_init_76 : decode cX2_init 76 = .ok (.bipush 14, 2) := by decide +kernel
theorem dX2_init_78 : decode cX2_init 78 = .ok (.if_icmp .ge 22, 3) := by decide +kernel
theorem dX2_init_81 : decode cX2_init 81 = .ok (.aload_n 0, 1) := by decide +kernel
theorem dX2_init_82 : decode cX2_init 82 = .ok (.getfield 27, 3) := by decide +kernel
theorem dX2_init_85 : decode cX2_init 85 = .ok (.iload_n 1, 1) := by decide +kernel
theorem dX2_init_86 : decode cX2_init 86 = .ok (.new 17, 3) := by decide +kernel
theorem dX2_init_89 : decode cX2_init 89 = .ok (.dup, 1) := by decide +kernel
theorem dX2_init_90 : decode cX2_init 90 = .ok (.invokespecial 19, 3) := by decide +kernel
theorem dX2_init_93 : decode cX2_init 93 = .ok (.aastore, 1) := by decide +kernel
theorem dX2_init_94 : decode cX2_init 94 = .ok (.iinc 1 1, 3) := by decide +kernel
theorem dX2_init_97 : decode cX2_init 97 = .ok (.goto (-22), 3) := by decide +kernel
theorem dX2_init_100 : decode cX2_init 100 = .ok (.iconst 0, 1) := by decide +kernel
theorem dX2_init_101 : decode cX2_init 101 = .ok (.istore_n 1, 1) := by decide +kernel
theorem dX2_init_102 : decode cX2_init 102 = .ok (.iload_n 1, 1) := by decide +kernel
theorem dX2_init_103 : decode cX2_init 103 = .ok (.iconst 2, 1) := by decide +kernel
theorem dX2_init_104 : decode cX2_init 104 = .ok (.if_icmp .ge 22, 3) := by decide +kernel
theorem dX2_init_107 : decode cX2_init 107 = .ok (.aload_n 0, 1) := by decide +kernel
theorem dX2_init_108 : decode cX2_init 108 = .ok (.getfield 37, 3) := by decide +kernel
theorem dX2_init_111 : decode cX2_init 111 = .ok (.iload_n 1, 1) := by decide +kernel
theorem dX2_init_112 : decode cX2_init 112 = .ok (.new 17, 3) := by decide +kernel
theorem dX2_init_115 : decode cX2_init 115 = .ok (.dup, 1) := by decide +kernel
theorem dX2_init_116 : decode cX2_init 116 = .ok (.invokespecial 19, 3) := by decide +kernel
theorem dX2_init_119 : decode cX2_init 119 = .ok (.aastore, 1) := by decide +kernel
theorem dX2_init_120 : decode cX2_init 120 = .ok (.iinc 1 1, 3) := by decide +kernel
theorem dX2_init_123 : decode cX2_init 123 = .ok (.goto (-21), 3) := by decide +kernel
theorem dX2_init_126 : decode cX2_init 126 = .ok (.return_, 1) := by decide +kernel
theorem dX2_append_0 : decode cX2_append 0 = .ok (.iload_n 1, 1) := by decide +kernel
theorem dX2_append_1 : decode cX2_append 1 = .ok (.ifCond .lt 10, 3) := by decide +kernel
theorem dX2_append_4 : decode cX2_append 4 = .ok (.iload_n 1, 1) := by decide +kernel
theorem dX2_append_5 : decode cX2_append 5 = .ok (.sipush 255, 3) := by decide +kernel
theorem dX2_append_8 : decode cX2_append 8 = .ok (.if_icmp .le 13, 3) := by decide +kernel
theorem dX2_append_11 : decode cX2_append 11 = .ok (.new 44, 3) := by decide +kernel
theorem dX2_append_14 : decode cX2_append 14 = .ok (.dup, 1) := by decide +kernel
theorem dX2_append_15 : decode cX2_append 15 = .ok (.ldc 46, 2) := by decide +kernel
theorem dX2_append_17 : decode cX2_append 17 = .ok (.invokespecial 48, 3) := by decide +kernel
theorem dX2_append_20 : decode cX2_append 20 = .ok (.athrow, 1) := by decide +kernel
theorem dX2_append_21 : decode cX2_append 21 = .ok (.aload_n 0, 1) := by decide +kernel
theorem dX2_append_22 : decode cX2_append 22 = .ok (.getfield 13, 3) := by decide +kernel
theorem dX2_append_25 : decode cX2_append 25 = .ok (.bipush 120, 2) := by decide +kernel
theorem dX2_append_27 : decode cX2_append 27 = .ok (.if_icmp .lt 13, 3) := by decide +kernel
theorem dX2_append_30 : decode cX2_append 30 = .ok (.new 51, 3) := by decide +kernel
theorem dX2_append_33 : decode cX2_append 33 = .ok (.dup, 1) := by decide +kernel
theorem dX2_append_34 : decode cX2_append 34 = .ok (.ldc 53, 2) := by decide +kernel
theorem dX2_append_36 : decode cX2_append 36 = .ok (.invokespecial 55, 3) := by decide +kernel
theorem dX2_append_39 : decode cX2_append 39 = .ok (.athrow, 1) := by decide +kernel
theorem dX2_append_40 : decode cX2_append 40 = .ok (.aload_n 0, 1) := by decide +kernel
theorem dX2_append_41 : decode cX2_append 41 = .ok (.getfield 9, 3) := by decide +kernel
theorem dX2_append_44 : decode cX2_append 44 = .ok (.aload_n 0, 1) := by decide +kernel
theorem dX2_append_45 : decode cX2_append 45 = .ok (.getfield 13, 3) := by decide +kernel
theorem dX2_append_48 : decode cX2_append 48 = .ok (.iload_n 1, 1) := by decide +kernel
theorem dX2_append_49 : decode cX2_append 49 = .ok (.i2c, 1) := by decide +kernel
theorem dX2_append_50 : decode cX2_append 50 = .ok (.castore, 1) := by decide +kernel
theorem dX2_append_51 : decode cX2_append 51 = .ok (.aload_n 0, 1) := by decide +kernel
theorem dX2_append_52 : decode cX2_append 52 = .ok (.dup, 1) := by decide +kernel
theorem dX2_append_53 : decode cX2_append 53 = .ok (.getfield 13, 3) := by decide +kernel
theorem dX2_append_56 : decode cX2_append 56 = .ok (.iconst 1, 1) := by decide +kernel
theorem dX2_append_57 : decode cX2_append 57 = .ok (.iadd, 1) := by decide +kernel
theorem dX2_append_58 : decode cX2_append 58 = .ok (.putfield 13, 3) := by decide +kernel
theorem dX2_append_61 : decode cX2_append 61 = .ok (.aload_n 0, 1) := by decide +kernel
theorem dX2_append_62 : decode cX2_append 62 = .ok (.getfield 13, 3) := by decide +kernel
theorem dX2_append_65 : decode cX2_append 65 = .ok (.ireturn, 1) := by decide +kernel
theorem dX2_errorPosition_0 : decode cX2_errorPosition 0 = .ok (.aload_n 0, 1) := by decide +kernel
theorem dX2_errorPosition_1 : decode cX2_errorPosition 1 = .ok (.iconst 0, 1) := by decide +kernel
theorem dX2_errorPosition_2 : decode cX2_errorPosition 2 = .ok (.invokevirtual 56, 3) := by decide +kernel
theorem dX2_errorPosition_5 : decode cX2_errorPosition 5 = .ok (.bipush 71, 2) := by decide +kernel
theorem dX2_errorPosition_7 : decode cX2_errorPosition 7 = .ok (.if_icmp .eq 5, 3) := by decide +kernel
theorem dX2_errorPosition_10 : decode cX2_errorPosition 10 = .ok (.iconst 0, 1) := by decide +kernel
theorem dX2_errorPosition_11 : decode cX2_errorPosition 11 = .ok (.ireturn, 1) := by decide +kernel
theorem dX2_errorPosition_12 : decode cX2_errorPosition 12 = .ok (.iconst 1, 1) := by decide +kernel
theorem dX2_errorPosition_13 : decode cX2_errorPosition 13 = .ok (.istore_n 1, 1) := by decide +kernel
theorem dX2_errorPosition_14 : decode cX2_errorPosition 14 = .ok (.iconst 0, 1) := by decide +kernel
theorem dX2_errorPosition_15 : decode cX2_errorPosition 15 = .ok (.istore_n 2, 1) := by decide +kernel
theorem dX2_errorPosition_16 : decode cX2_errorPosition 16 = .ok (.iload_n 2, 1) := by decide +kernel
theorem dX2_errorPosition_17 : decode cX2_errorPosition 17 = .ok (.bipush 120, 2) := by decide +kernel
theorem dX2_errorPosition_19 : decode cX2_errorPosition 19 = .ok (.if_icmp .ge 38, 3) := by decide +kernel
theorem dX2_errorPosition_22 : decode cX2_errorPosition 22 = .ok (.iload_n 1, 1) := by decide +kernel
theorem dX2_errorPosition_23 : decode cX2_errorPosition 23 = .ok (.aload_n 0, 1) := by decide +kernel
theorem dX2_errorPosition_24 : decode cX2_errorPosition 24 = .ok (.getfield 13, 3) := by decide +kernel
theorem dX2_errorPosition_27 : decode cX2_errorPosition 27 = .ok (.if_icmp .ge 30, 3) := by decide +kernel
theorem dX2_errorPosition_30 : decode cX2_errorPosition 30 = .ok (.aload_n 0, 1) := by decide +kernel
theorem dX2_errorPosition_31 : decode cX2_errorPosition 31 = .ok (.iload_n 1, 1) := by decide +kernel
theorem dX2_errorPosition_32 : decode cX2_errorPosition 32 = .ok (.invokevirtual 60, 3) := by decide +kernel
theorem dX2_errorPosition_35 : decode cX2_errorPosition 35 = .ok (.istore_n 3, 1) := by decide +kernel
theorem dX2_errorPosition_36 : decode cX2_errorPosition 36 = .ok (.iload_n 3, 1) := by decide +kernel
theorem dX2_errorPosition_37 : decode cX2_errorPosition 37 = .ok (.iconst (-1), 1) := by decide +kernel
theorem dX2_errorPosition_38 : decode cX2_errorPosition 38 = .ok (.if_icmp .eq 5, 3) := by decide +kernel
theorem dX2_errorPosition_41 : decode cX2_errorPosition 41 = .ok (.iload_n 3, 1) := by decide +kernel
theorem dX2_errorPosition_42 : decode cX2_errorPosition 42 = .ok (.ireturn, 1) := by decide +kernel
theorem dX2_errorPosition_43 : decode cX2_errorPosition 43 = .ok (.iload_n 1, 1) := by decide +kernel
theorem dX2_errorPosition_44 : decode cX2_errorPosition 44 = .ok (.aload_n 0, 1) := by decide +kernel
theorem dX2_errorPosition_45 : decode cX2_errorPosition 45 = .ok (.iload_n 1, 1) := by decide +kernel
theorem dX2_errorPosition_46 : decode cX2_errorPosition 46 = .ok (.invokevirtual 63, 3) := by decide +kernel
theorem dX2_errorPosition_49 : decode cX2_errorPosition 49 = .ok (.iadd, 1) := by decide +kernel
theorem dX2_errorPosition_50 : decode cX2_errorPosition 50 = .ok (.istore_n 1, 1) := by decide +kernel
theorem dX2_errorPosition_51 : decode cX2_errorPosition 51 = .ok (.iinc 2 1, 3) := by decide +kernel
theorem dX2_errorPosition_54 : decode cX2_errorPosition 54 = .ok (.goto (-38), 3) := by decide +kernel
theorem dX2_errorPosition_57 : decode cX2_errorPosition 57 = .ok (.iconst (-1), 1) := by decide +kernel
theorem dX2_errorPosition_58 : decode cX2_errorPosition 58 = .ok (.ireturn, 1) := by decide +kernel
theorem dX2_load_0 : decode cX2_load 0 = .ok (.aload_n 0, 1) := by decide +kernel
theorem dX2_load_1 : decode cX2_load 1 = .ok (.invokevirtual 66, 3) := by decide +kernel
theorem dX2_load_4 : decode cX2_load 4 = .ok (.iconst (-1), 1) := by decide +kernel
theorem dX2_load_5 : decode cX2_load 5 = .ok (.if_icmp .eq 13, 3) := by decide +kernel
theorem dX2_load_8 : decode cX2_load 8 = .ok (.new 51, 3) := by decide +kernel
theorem dX2_load_11 : decode cX2_load 11 = .ok (.dup, 1) := by decide +kernel
theorem dX2_load_12 : decode cX2_load 12 = .ok (.ldc 70, 2) := by decide +kernel
theorem dX2_load_14 : decode cX2_load 14 = .ok (.invokespecial 55, 3) := by decide +kernel
theorem dX2_load_17 : decode cX2_load 17 = .ok (.athrow, 1) := by decide +kernel
theorem dX2_load_18 : decode cX2_load 18 = .ok (.aload_n 0, 1) := by decide +kernel
theorem dX2_load_19 : decode cX2_load 19 = .ok (.getfield 20, 3) := by decide +kernel
theorem dX2_load_22 : decode cX2_load 22 = .ok (.invokevirtual 72, 3) := by decide +kernel
theorem dX2_load_25 : decode cX2_load 25 = .ok (.aload_n 0, 1) := by decide +kernel
theorem dX2_load_26 : decode cX2_load 26 = .ok (.invokevirtual 75, 3) := by decide +kernel
theorem dX2_load_29 : decode cX2_load 29 = .ok (.iconst 0, 1) := by decide +kernel
theorem dX2_load_30 : decode cX2_load 30 = .ok (.istore_n 1, 1) := by decide +kernel
theorem dX2_load_31 : decode cX2_load 31 = .ok (.iload_n 1, 1) := by decide +kernel
theorem dX2_load_32 : decode cX2_load 32 = .ok (.iconst 2, 1) := by decide +kernel
theorem dX2_load_33 : decode cX2_load 33 = .ok (.if_icmp .ge 16, 3) := by decide +kernel
theorem dX2_load_36 : decode cX2_load 36 = .ok (.aload_n 0, 1) := by decide +kernel
theorem dX2_load_37 : decode cX2_load 37 = .ok (.getfield 40, 3) := by decide +kernel
theorem dX2_load_40 : decode cX2_load 40 = .ok (.iload_n 1, 1) := by decide +kernel
theorem dX2_load_41 : decode cX2_load 41 = .ok (.iconst 0, 1) := by decide +kernel
theorem dX2_load_42 : decode cX2_load 42 = .ok (.bastore, 1) := by decide +kernel
theorem dX2_load_43 : decode cX2_load 43 = .ok (.iinc 1 1, 3) := by decide +kernel
theorem dX2_load_46 : decode cX2_load 46 = .ok (.goto (-15), 3) := by decide +kernel
theorem dX2_load_49 : decode cX2_load 49 = .ok (.iconst 0, 1) := by decide +kernel
theorem dX2_load_50 : decode cX2_load 50 = .ok (.istore_n 1, 1) := by decide +kernel
theorem dX2_load_51 : decode cX2_load 51 = .ok (.iconst 1, 1) := by decide +kernel
theorem dX2_load_52 : decode cX2_load 52 = .ok (.istore_n 2, 1) := by decide +kernel
theorem dX2_load_53 : decode cX2_load 53 = .ok (.iconst 0, 1) := by decide +kernel
theorem dX2_load_54 : decode cX2_load 54 = .ok (.istore_n 3, 1) := by decide +kernel
theorem dX2_load_55 : decode cX2_load 55 = .ok (.iload_n 3, 1) := by decide +kernel
theorem dX2_load_56 : decode cX2_load 56 = .ok (.bipush 120, 2) := by decide +kernel
theorem dX2_load_58 : decode cX2_load 58 = .ok (.if_icmp .ge 36, 3) := by decide +kernel
theorem dX2_load_61 : decode cX2_load 61 = .ok (.iload_n 2, 1) := by decide +kernel
theorem dX2_load_62 : decode cX2_load 62 = .ok (.aload_n 0, 1) := by decide +kernel
theorem dX2_load_63 : decode cX2_load 63 = .ok (.getfield 13, 3) := by decide +kernel
theorem dX2_load_66 : decode cX2_load 66 = .ok (.if_icmp .ge 28, 3) := by decide +kernel
theorem dX2_load_69 : decode cX2_load 69 = .ok (.aload_n 0, 1) := by decide +kernel
theorem dX2_load_70 : decode cX2_load 70 = .ok (.iload_n 2, 1) := by decide +kernel
theorem dX2_load_71 : decode cX2_load 71 = .ok (.invokevirtual 78, 3) := by decide +kernel
theorem dX2_load_74 : decode cX2_load 74 = .ok (.ifCond .ne 6, 3) := by decide +kernel
theorem dX2_load_77 : decode cX2_load 77 = .ok (.iinc 1 1, 3) := by decide +kernel
theorem dX2_load_80 : decode cX2_load 80 = .ok (.iload_n 2, 1) := by decide +kernel
theorem dX2_load_81 : decode cX2_load 81 = .ok (.aload_n 0, 1) := by decide +kernel
theorem dX2_load_82 : decode cX2_load 82 = .ok (.iload_n 2, 1) := by decide +kernel
theorem dX2_load_83 : decode cX2_load 83 = .ok (.invokevirtual 63, 3) := by decide +kernel
theorem dX2_load_86 : decode cX2_load 86 = .ok (.iadd, 1) := by decide +kernel
theorem dX2_load_87 : decode cX2_load 87 = .ok (.istore_n 2, 1) := by decide +kernel
theorem dX2_load_88 : decode cX2_load 88 = .ok (.iinc 3 1, 3) := by decide +kernel
theorem dX2_load_91 : decode cX2_load 91 = .ok (.goto (-36), 3) := by decide +kernel
theorem dX2_load_94 : decode cX2_load 94 = .ok (.iload_n 1, 1) := by decide +kernel
theorem dX2_load_95 : decode cX2_load 95 = .ok (.ireturn, 1) := by decide +kernel
theorem dX2_signAt_0 : decode cX2_signAt 0 = .ok (.iload_n 1, 1) := by decide +kernel
theorem dX2_signAt_1 : decode cX2_signAt 1 = .ok (.ifCond .lt 17, 3) := by decide +kernel
theorem dX2_signAt_4 : decode cX2_signAt 4 = .ok (.iload_n 1, 1) := by decide +kernel
theorem dX2_signAt_5 : decode cX2_signAt 5 = .ok (.aload_n 0, 1) := by decide +kernel
theorem dX2_signAt_6 : decode cX2_signAt 6 = .ok (.getfield 13, 3) := by decide +kernel
theorem dX2_signAt_9 : decode cX2_signAt 9 = .ok (.if_icmp .ge 9, 3) := by decide +kernel
theorem dX2_signAt_12 : decode cX2_signAt 12 = .ok (.iload_n 1, 1) := by decide +kernel
theorem dX2_signAt_13 : decode cX2_signAt 13 = .ok (.bipush 120, 2) := by decide +kernel
theorem dX2_signAt_15 : decode cX2_signAt 15 = .ok (.if_icmp .lt 5, 3) := by decide +kernel
theorem dX2_signAt_18 : decode cX2_signAt 18 = .ok (.iconst (-1), 1) := by decide +kernel
theorem dX2_signAt_19 : decode cX2_signAt 19 = .ok (.ireturn, 1) := by decide +kernel
theorem dX2_signAt_20 : decode cX2_signAt 20 = .ok (.aload_n 0, 1) := by decide +kernel
theorem dX2_signAt_21 : decode cX2_signAt 21 = .ok (.getfield 9, 3) := by decide +kernel
theorem dX2_signAt_24 : decode cX2_signAt 24 = .ok (.iload_n 1, 1) := by decide +kernel
theorem dX2_signAt_25 : decode cX2_signAt 25 = .ok (.caload, 1) := by decide +kernel
theorem dX2_signAt_26 : decode cX2_signAt 26 = .ok (.ireturn, 1) := by decide +kernel
theorem dX2_digitAt_0 : decode cX2_digitAt 0 = .ok (.aload_n 0, 1) := by decide +kernel
theorem dX2_digitAt_1 : decode cX2_digitAt 1 = .ok (.iload_n 1, 1) := by decide +kernel
theorem dX2_digitAt_2 : decode cX2_digitAt 2 = .ok (.invokevirtual 56, 3) := by decide +kernel
theorem dX2_digitAt_5 : decode cX2_digitAt 5 = .ok (.bipush 48, 2) := by decide +kernel
theorem dX2_digitAt_7 : decode cX2_digitAt 7 = .ok (.isub, 1) := by decide +kernel
theorem dX2_digitAt_8 : decode cX2_digitAt 8 = .ok (.ireturn, 1) := by decide +kernel
theorem dX2_twoDigitsAt_0 : decode cX2_twoDigitsAt 0 = .ok (.bipush 10, 2) := by decide +kernel
theorem dX2_twoDigitsAt_2 : decode cX2_twoDigitsAt 2 = .ok (.aload_n 0, 1) := by decide +kernel
theorem dX2_twoDigitsAt_3 : decode cX2_twoDigitsAt 3 = .ok (.iload_n 1, 1) := by decide +kernel
theorem dX2_twoDigitsAt_4 : decode cX2_twoDigitsAt 4 = .ok (.invokevirtual 82, 3) := by decide +kernel
theorem dX2_twoDigitsAt_7 : decode cX2_twoDigitsAt 7 = .ok (.imul, 1) := by decide +kernel
theorem dX2_twoDigitsAt_8 : decode cX2_twoDigitsAt 8 = .ok (.aload_n 0, 1) := by decide +kernel
theorem dX2_twoDigitsAt_9 : decode cX2_twoDigitsAt 9 = .ok (.iload_n 1, 1) := by decide +kernel
theorem dX2_twoDigitsAt_10 : decode cX2_twoDigitsAt 10 = .ok (.iconst 1, 1) := by decide +kernel
theorem dX2_twoDigitsAt_11 : decode cX2_twoDigitsAt 11 = .ok (.iadd, 1) := by decide +kernel
theorem dX2_twoDigitsAt_12 : decode cX2_twoDigitsAt 12 = .ok (.invokevirtual 82, 3) := by decide +kernel
theorem dX2_twoDigitsAt_15 : decode cX2_twoDigitsAt 15 = .ok (.iadd, 1) := by decide +kernel
theorem dX2_twoDigitsAt_16 : decode cX2_twoDigitsAt 16 = .ok (.ireturn, 1) := by decide +kernel
theorem dX2_wrongSignOf_0 : decode cX2_wrongSignOf 0 = .ok (.aload_n 0, 1) := by decide +kernel
theorem dX2_wrongSignOf_1 : decode cX2_wrongSignOf 1 = .ok (.iload_n 1, 1) := by decide +kernel
theorem dX2_wrongSignOf_2 : decode cX2_wrongSignOf 2 = .ok (.invokevirtual 56, 3) := by decide +kernel
theorem dX2_wrongSignOf_5 : decode cX2_wrongSignOf 5 = .ok (.istore_n 2, 1) := by decide +kernel
theorem dX2_wrongSignOf_6 : decode cX2_wrongSignOf 6 = .ok (.iload_n 2, 1) := by decide +kernel
theorem dX2_wrongSignOf_7 : decode cX2_wrongSignOf 7 = .ok (.invokestatic 85, 3) := by decide +kernel
theorem dX2_wrongSignOf_10 : decode cX2_wrongSignOf 10 = .ok (.istore_n 3, 1) := by decide +kernel
theorem dX2_wrongSignOf_11 : decode cX2_wrongSignOf 11 = .ok (.iload_n 3, 1) := by decide +kernel
theorem dX2_wrongSignOf_12 : decode cX2_wrongSignOf 12 = .ok (.ifCond .ne 5, 3) := by decide +kernel
theorem dX2_wrongSignOf_15 : decode cX2_wrongSignOf 15 = .ok (.iload_n 1, 1) := by decide +kernel
theorem dX2_wrongSignOf_16 : decode cX2_wrongSignOf 16 = .ok (.ireturn, 1) := by decide +kernel
theorem dX2_wrongSignOf_17 : decode cX2_wrongSignOf 17 = .ok (.iconst 1, 1) := by decide +kernel
theorem dX2_wrongSignOf_18 : decode cX2_wrongSignOf 18 = .ok (.istore 4, 2) := by decide +kernel
theorem dX2_wrongSignOf_20 : decode cX2_wrongSignOf 20 = .ok (.iload 4, 2) := by decide +kernel
theorem dX2_wrongSignOf_22 : decode cX2_wrongSignOf 22 = .ok (.iload_n 3, 1) := by decide +kernel
theorem dX2_wrongSignOf_23 : decode cX2_wrongSignOf 23 = .ok (.if_icmp .ge 41, 3) := by decide +kernel
theorem dX2_wrongSignOf_26 : decode cX2_wrongSignOf 26 = .ok (.iload_n 2, 1) := by decide +kernel
theorem dX2_wrongSignOf_27 : decode cX2_wrongSignOf 27 = .ok (.iload 4, 2) := by decide +kernel
theorem dX2_wrongSignOf_29 : decode cX2_wrongSignOf 29 = .ok (.aload_n 0, 1) := by decide +kernel
theorem dX2_wrongSignOf_30 : decode cX2_wrongSignOf 30 = .ok (.iload_n 1, 1) := by decide +kernel
theorem dX2_wrongSignOf_31 : decode cX2_wrongSignOf 31 = .ok (.iload 4, 2) := by decide +kernel
theorem dX2_wrongSignOf_33 : decode cX2_wrongSignOf 33 = .ok (.iadd, 1) := by decide +kernel
theorem dX2_wrongSignOf_34 : decode cX2_wrongSignOf 34 = .ok (.iconst 1, 1) := by decide +kernel
theorem dX2_wrongSignOf_35 : decode cX2_wrongSignOf 35 = .ok (.isub, 1) := by decide +kernel
theorem dX2_wrongSignOf_36 : decode cX2_wrongSignOf 36 = .ok (.invokevirtual 56, 3) := by decide +kernel
theorem dX2_wrongSignOf_39 : decode cX2_wrongSignOf 39 = .ok (.aload_n 0, 1) := by decide +kernel
theorem dX2_wrongSignOf_40 : decode cX2_wrongSignOf 40 = .ok (.iload_n 1, 1) := by decide +kernel
theorem dX2_wrongSignOf_41 : decode cX2_wrongSignOf 41 = .ok (.iload 4, 2) := by decide +kernel
theorem dX2_wrongSignOf_43 : decode cX2_wrongSignOf 43 = .ok (.iadd, 1) := by decide +kernel
theorem dX2_wrongSignOf_44 : decode cX2_wrongSignOf 44 = .ok (.invokevirtual 56, 3) := by decide +kernel
theorem dX2_wrongSignOf_47 : decode cX2_wrongSignOf 47 = .ok (.invokestatic 88, 3) := by decide +kernel
theorem dX2_wrongSignOf_50 : decode cX2_wrongSignOf 50 = .ok (.ifCond .ne 8, 3) := by decide +kernel
theorem dX2_wrongSignOf_53 : decode cX2_wrongSignOf 53 = .ok (.iload_n 1, 1) := by decide +kernel
theorem dX2_wrongSignOf_54 : decode cX2_wrongSignOf 54 = .ok (.iload 4, 2) := by decide +kernel
theorem dX2_wrongSignOf_56 : decode cX2_wrongSignOf 56 = .ok (.iadd, 1) := by decide +kernel
theorem dX2_wrongSignOf_57 : decode cX2_wrongSignOf 57 = .ok (.ireturn, 1) := by decide +kernel
theorem dX2_wrongSignOf_58 : decode cX2_wrongSignOf 58 = .ok (.iinc 4 1, 3) := by decide +kernel
theorem dX2_wrongSignOf_61 : decode cX2_wrongSignOf 61 = .ok (.goto (-41), 3) := by decide +kernel
theorem dX2_wrongSignOf_64 : decode cX2_wrongSignOf 64 = .ok (.iconst (-1), 1) := by decide +kernel
theorem dX2_wrongSignOf_65 : decode cX2_wrongSignOf 65 = .ok (.ireturn, 1) := by decide +kernel
theorem dX2_fixedLength_0 : decode cX2_fixedLength 0 = .ok (.iload_n 0, 1) := by decide +kernel
theorem dX2_fixedLength_1 : decode cX2_fixedLength 1 = .ok (.lookupswitch 59 #[(98, 53), (108, 51), (109, 53), (116, 55), (118, 57)], 51) := by decide +kernel
theorem dX2_fixedLength_52 : decode cX2_fixedLength 52 = .ok (.iconst 1, 1) := by decide +kernel
theorem dX2_fixedLength_53 : decode cX2_fixedLength 53 = .ok (.ireturn, 1) := by decide +kernel
theorem dX2_fixedLength_54 : decode cX2_fixedLength 54 = .ok (.iconst 2, 1) := by decide +kernel
theorem dX2_fixedLength_55 : decode cX2_fixedLength 55 = .ok (.ireturn, 1) := by decide +kernel
theorem dX2_fixedLength_56 : decode cX2_fixedLength 56 = .ok (.iconst 3, 1) := by decide +kernel
theorem dX2_fixedLength_57 : decode cX2_fixedLength 57 = .ok (.ireturn, 1) := by decide +kernel
theorem dX2_fixedLength_58 : decode cX2_fixedLength 58 = .ok (.iconst 4, 1) := by decide +kernel
theorem dX2_fixedLength_59 : decode cX2_fixedLength 59 = .ok (.ireturn, 1) := by decide +kernel
theorem dX2_fixedLength_60 : decode cX2_fixedLength 60 = .ok (.iconst 0, 1) := by decide +kernel
theorem dX2_fixedLength_61 : decode cX2_fixedLength 61 = .ok (.ireturn, 1) := by decide +kernel
theorem dX2_isAllowed_0 : decode cX2_isAllowed 0 = .ok (.iload_n 0, 1) := by decide +kernel
theorem dX2_isAllowed_1 : decode cX2_isAllowed 1 = .ok (.bipush 116, 2) := by decide +kernel
theorem dX2_isAllowed_3 : decode cX2_isAllowed 3 = .ok (.if_icmp .ne 25, 3) := by decide +kernel
theorem dX2_isAllowed_6 : decode cX2_isAllowed 6 = .ok (.iload_n 1, 1) := by decide +kernel
theorem dX2_isAllowed_7 : decode cX2_isAllowed 7 = .ok (.iconst 1, 1) := by decide +kernel
theorem dX2_isAllowed_8 : decode cX2_isAllowed 8 = .ok (.if_icmp .ne 14, 3) := by decide +kernel
theorem dX2_isAllowed_11 : decode cX2_isAllowed 11 = .ok (.iload_n 3, 1) := by decide +kernel
theorem dX2_isAllowed_12 : decode cX2_isAllowed 12 = .ok (.bipush 48, 2) := by decide +kernel
theorem dX2_isAllowed_14 : decode cX2_isAllowed 14 = .ok (.bipush 54, 2) := by decide +kernel
theorem dX2_isAllowed_16 : decode cX2_isAllowed 16 = .ok (.invokestatic 92, 3) := by decide +kernel
theorem dX2_isAllowed_19 : decode cX2_isAllowed 19 = .ok (.goto 8, 3) := by decide +kernel
theorem dX2_isAllowed_22 : decode cX2_isAllowed 22 = .ok (.iload_n 2, 1) := by decide +kernel
theorem dX2_isAllowed_23 : decode cX2_isAllowed 23 = .ok (.iload_n 3, 1) := by decide +kernel
theorem dX2_isAllowed_24 : decode cX2_isAllowed 24 = .ok (.invokestatic 96, 3) := by decide +kernel
theorem dX2_isAllowed_27 : decode cX2_isAllowed 27 = .ok (.ireturn, 1) := by decide +kernel
theorem dX2_isAllowed_28 : decode cX2_isAllowed 28 = .ok (.iload_n 1, 1) := by decide +kernel
theorem dX2_isAllowed_29 : decode cX2_isAllowed 29 = .ok (.iconst 1, 1) := by decide +kernel
theorem dX2_isAllowed_30 : decode cX2_isAllowed 30 = .ok (.if_icmp .ne 12, 3) := by decide +kernel
theorem dX2_isAllowed_33 : decode cX2_isAllowed 33 = .ok (.iload_n 3, 1) := by decide +kernel
theorem dX2_isAllowed_34 : decode cX2_isAllowed 34 = .ok (.bipush 48, 2) := by decide +kernel
theorem dX2_isAllowed_36 : decode cX2_isAllowed 36 = .ok (.bipush 50, 2) := by decide +kernel
theorem dX2_isAllowed_38 : decode cX2_isAllowed 38 = .ok (.invokestatic 92, 3) := by decide +kernel
theorem dX2_isAllowed_41 : decode cX2_isAllowed 41 = .ok (.ireturn, 1) := by decide +kernel
theorem dX2_isAllowed_42 : decode cX2_isAllowed 42 = .ok (.iload_n 1, 1) := by decide +kernel
theorem dX2_isAllowed_43 : decode cX2_isAllowed 43 = .ok (.iconst 2, 1) := by decide +kernel
theorem dX2_isAllowed_44 : decode cX2_isAllowed 44 = .ok (.if_icmp .ne 14, 3) := by decide +kernel
theorem dX2_isAllowed_47 : decode cX2_isAllowed 47 = .ok (.iload_n 3, 1) := by decide +kernel
theorem dX2_isAllowed_48 : decode cX2_isAllowed 48 = .ok (.bipush 48, 2) := by decide +kernel
theorem dX2_isAllowed_50 : decode cX2_isAllowed 50 = .ok (.bipush 49, 2) := by decide +kernel
theorem dX2_isAllowed_52 : decode cX2_isAllowed 52 = .ok (.invokestatic 92, 3) := by decide +kernel
theorem dX2_isAllowed_55 : decode cX2_isAllowed 55 = .ok (.goto 8, 3) := by decide +kernel
theorem dX2_isAllowed_58 : decode cX2_isAllowed 58 = .ok (.iload_n 2, 1) := by decide +kernel
theorem dX2_isAllowed_59 : decode cX2_isAllowed 59 = .ok (.iload_n 3, 1) := by decide +kernel
theorem dX2_isAllowed_60 : decode cX2_isAllowed 60 = .ok (.invokestatic 100, 3) := by decide +kernel
theorem dX2_isAllowed_63 : decode cX2_isAllowed 63 = .ok (.ireturn, 1) := by decide +kernel
theorem dX2_isLastDigitOfTicks_0 : decode cX2_isLastDigitOfTicks 0 = .ok (.iload_n 0, 1) := by decide +kernel
theorem dX2_isLastDigitOfTicks_1 : decode cX2_isLastDigitOfTicks 1 = .ok (.bipush 48, 2) := by decide +kernel
theorem dX2_isLastDigitOfTicks_3 : decode cX2_isLastDigitOfTicks 3 = .ok (.if_icmp .ne 12, 3) := by decide +kernel
theorem dX2_isLastDigitOfTicks_6 : decode cX2_isLastDigitOfTicks 6 = .ok (.iload_n 1, 1) := by decide +kernel
theorem dX2_isLastDigitOfTicks_7 : decode cX2_isLastDigitOfTicks 7 = .ok (.bipush 49, 2) := by decide +kernel
theorem dX2_isLastDigitOfTicks_9 : decode cX2_isLastDigitOfTicks 9 = .ok (.bipush 57, 2) := by decide +kernel
theorem dX2_isLastDigitOfTicks_11 : decode cX2_isLastDigitOfTicks 11 = .ok (.invokestatic 92, 3) := by decide +kernel
theorem dX2_isLastDigitOfTicks_14 : decode cX2_isLastDigitOfTicks 14 = .ok (.ireturn, 1) := by decide +kernel
theorem dX2_isLastDigitOfTicks_15 : decode cX2_isLastDigitOfTicks 15 = .ok (.iload_n 1, 1) := by decide +kernel
theorem dX2_isLastDigitOfTicks_16 : decode cX2_isLastDigitOfTicks 16 = .ok (.bipush 48, 2) := by decide +kernel
theorem dX2_isLastDigitOfTicks_18 : decode cX2_isLastDigitOfTicks 18 = .ok (.iload_n 0, 1) := by decide +kernel
theorem dX2_isLastDigitOfTicks_19 : decode cX2_isLastDigitOfTicks 19 = .ok (.bipush 54, 2) := by decide +kernel
theorem dX2_isLastDigitOfTicks_21 : decode cX2_isLastDigitOfTicks 21 = .ok (.if_icmp .ne 8, 3) := by decide +kernel
theorem dX2_isLastDigitOfTicks_24 : decode cX2_isLastDigitOfTicks 24 = .ok (.bipush 48, 2) := by decide +kernel
theorem dX2_isLastDigitOfTicks_26 : decode cX2_isLastDigitOfTicks 26 = .ok (.goto 5, 3) := by decide +kernel
theorem dX2_isLastDigitOfTicks_29 : decode cX2_isLastDigitOfTicks 29 = .ok (.bipush 57, 2) := by decide +kernel
theorem dX2_isLastDigitOfTicks_31 : decode cX2_isLastDigitOfTicks 31 = .ok (.invokestatic 92, 3) := by decide +kernel
theorem dX2_isLastDigitOfTicks_34 : decode cX2_isLastDigitOfTicks 34 = .ok (.ireturn, 1) := by decide +kernel
theorem dX2_isLastDigitOfLength_0 : decode cX2_isLastDigitOfLength 0 = .ok (.iload_n 0, 1) := by decide +kernel
theorem dX2_isLastDigitOfLength_1 : decode cX2_isLastDigitOfLength 1 = .ok (.bipush 48, 2) := by decide +kernel
theorem dX2_isLastDigitOfLength_3 : decode cX2_isLastDigitOfLength 3 = .ok (.if_icmp .ne 14, 3) := by decide +kernel
theorem dX2_isLastDigitOfLength_6 : decode cX2_isLastDigitOfLength 6 = .ok (.iload_n 1, 1) := by decide +kernel
theorem dX2_isLastDigitOfLength_7 : decode cX2_isLastDigitOfLength 7 = .ok (.bipush 50, 2) := by decide +kernel
theorem dX2_isLastDigitOfLength_9 : decode cX2_isLastDigitOfLength 9 = .ok (.bipush 57, 2) := by decide +kernel
theorem dX2_isLastDigitOfLength_11 : decode cX2_isLastDigitOfLength 11 = .ok (.invokestatic 92, 3) := by decide +kernel
theorem dX2_isLastDigitOfLength_14 : decode cX2_isLastDigitOfLength 14 = .ok (.goto 11, 3) := by decide +kernel
theorem dX2_isLastDigitOfLength_17 : decode cX2_isLastDigitOfLength 17 = .ok (.iload_n 1, 1) := by decide +kernel
theorem dX2_isLastDigitOfLength_18 : decode cX2_isLastDigitOfLength 18 = .ok (.bipush 48, 2) := by decide +kernel
theorem dX2_isLastDigitOfLength_20 : decode cX2_isLastDigitOfLength 20 = .ok (.bipush 50, 2) := by decide +kernel
theorem dX2_isLastDigitOfLength_22 : decode cX2_isLastDigitOfLength 22 = .ok (.invokestatic 92, 3) := by decide +kernel
theorem dX2_isLastDigitOfLength_25 : decode cX2_isLastDigitOfLength 25 = .ok (.ireturn, 1) := by decide +kernel
theorem dX2_isBetween_0 : decode cX2_isBetween 0 = .ok (.iload_n 0, 1) := by decide +kernel
theorem dX2_isBetween_1 : decode cX2_isBetween 1 = .ok (.iload_n 1, 1) := by decide +kernel
theorem dX2_isBetween_2 : decode cX2_isBetween 2 = .ok (.if_icmp .lt 12, 3) := by decide +kernel
theorem dX2_isBetween_5 : decode cX2_isBetween 5 = .ok (.iload_n 0, 1) := by decide +kernel
theorem dX2_isBetween_6 : decode cX2_isBetween 6 = .ok (.iload_n 2, 1) := by decide +kernel
theorem dX2_isBetween_7 : decode cX2_isBetween 7 = .ok (.if_icmp .gt 7, 3) := by decide +kernel
theorem dX2_isBetween_10 : decode cX2_isBetween 10 = .ok (.iconst 1, 1) := by decide +kernel
theorem dX2_isBetween_11 : decode cX2_isBetween 11 = .ok (.goto 4, 3) := by decide +kernel
theorem dX2_isBetween_14 : decode cX2_isBetween 14 = .ok (.iconst 0, 1) := by decide +kernel
theorem dX2_isBetween_15 : decode cX2_isBetween 15 = .ok (.ireturn, 1) := by decide +kernel
theorem dX2_commandLength_0 : decode cX2_commandLength 0 = .ok (.aload_n 0, 1) := by decide +kernel
theorem dX2_commandLength_1 : decode cX2_commandLength 1 = .ok (.iload_n 1, 1) := by decide +kernel
theorem dX2_commandLength_2 : decode cX2_commandLength 2 = .ok (.invokevirtual 56, 3) := by decide +kernel
theorem dX2_commandLength_5 : decode cX2_commandLength 5 = .ok (.invokestatic 85, 3) := by decide +kernel
theorem dX2_commandLength_8 : decode cX2_commandLength 8 = .ok (.istore_n 2, 1) := by decide +kernel
theorem dX2_commandLength_9 : decode cX2_commandLength 9 = .ok (.aload_n 0, 1) := by decide +kernel
theorem dX2_commandLength_10 : decode cX2_commandLength 10 = .ok (.iload_n 1, 1) := by decide +kernel
theorem dX2_commandLength_11 : decode cX2_commandLength 11 = .ok (.invokevirtual 56, 3) := by decide +kernel
theorem dX2_commandLength_14 : decode cX2_commandLength 14 = .ok (.bipush 118, 2) := by decide +kernel
theorem dX2_commandLength_16 : decode cX2_commandLength 16 = .ok (.if_icmp .eq 5, 3) := by decide +kernel
theorem dX2_commandLength_19 : decode cX2_commandLength 19 = .ok (.iload_n 2, 1) := by decide +kernel
theorem dX2_commandLength_20 : decode cX2_commandLength 20 = .ok (.ireturn, 1) := by decide +kernel
theorem dX2_commandLength_21 : decode cX2_commandLength 21 = .ok (.aload_n 0, 1) := by decide +kernel
theorem dX2_commandLength_22 : decode cX2_commandLength 22 = .ok (.iload_n 1, 1) := by decide +kernel
theorem dX2_commandLength_23 : decode cX2_commandLength 23 = .ok (.iload_n 2, 1) := by decide +kernel
theorem dX2_commandLength_24 : decode cX2_commandLength 24 = .ok (.iadd, 1) := by decide +kernel
theorem dX2_commandLength_25 : decode cX2_commandLength 25 = .ok (.invokevirtual 56, 3) := by decide +kernel
theorem dX2_commandLength_28 : decode cX2_commandLength 28 = .ok (.bipush 120, 2) := by decide +kernel
theorem dX2_commandLength_30 : decode cX2_commandLength 30 = .ok (.if_icmp .ne 6, 3) := by decide +kernel
theorem dX2_commandLength_33 : decode cX2_commandLength 33 = .ok (.iinc 2 1, 3) := by decide +kernel
theorem dX2_commandLength_36 : decode cX2_commandLength 36 = .ok (.aload_n 0, 1) := by decide +kernel
theorem dX2_commandLength_37 : decode cX2_commandLength 37 = .ok (.iload_n 1, 1) := by decide +kernel
theorem dX2_commandLength_38 : decode cX2_commandLength 38 = .ok (.iload_n 2, 1) := by decide +kernel
theorem dX2_commandLength_39 : decode cX2_commandLength 39 = .ok (.iadd, 1) := by decide +kernel
theorem dX2_commandLength_40 : decode cX2_commandLength 40 = .ok (.invokevirtual 56, 3) := by decide +kernel
theorem dX2_commandLength_43 : decode cX2_commandLength 43 = .ok (.bipush 102, 2) := by decide +kernel
theorem dX2_commandLength_45 : decode cX2_commandLength 45 = .ok (.if_icmp .ne 6, 3) := by decide +kernel
theorem dX2_commandLength_48 : decode cX2_commandLength 48 = .ok (.iinc 2 1, 3) := by decide +kernel
theorem dX2_commandLength_51 : decode cX2_commandLength 51 = .ok (.iload_n 2, 1) := by decide +kernel
theorem dX2_commandLength_52 : decode cX2_commandLength 52 = .ok (.ireturn, 1) := by decide +kernel
theorem dX2_doCommand_0 : decode cX2_doCommand 0 = .ok (.aload_n 0, 1) := by decide +kernel
theorem dX2_doCommand_1 : decode cX2_doCommand 1 = .ok (.iload_n 1, 1) := by decide +kernel
theorem dX2_doCommand_2 : decode cX2_doCommand 2 = .ok (.invokevirtual 56, 3) := by decide +kernel
theorem dX2_doCommand_5 : decode cX2_doCommand 5 = .ok (.lookupswitch 111 #[(98, 65), (108, 51), (109, 81), (116, 96), (118, 59)], 51) := by decide +kernel
theorem dX2_doCommand_56 : decode cX2_doCommand 56 = .ok (.aload_n 0, 1) := by decide +kernel
theorem dX2_doCommand_57 : decode cX2_doCommand 57 = .ok (.getfield 20, 3) := by decide +kernel
theorem dX2_doCommand_60 : decode cX2_doCommand 60 = .ok (.invokevirtual 103, 3) := by decide +kernel
theorem dX2_doCommand_63 : decode cX2_doCommand 63 = .ok (.ireturn, 1) := by decide +kernel
theorem dX2_doCommand_64 : decode cX2_doCommand 64 = .ok (.aload_n 0, 1) := by decide +kernel
theorem dX2_doCommand_65 : decode cX2_doCommand 65 = .ok (.iload_n 1, 1) := by decide +kernel
theorem dX2_doCommand_66 : decode cX2_doCommand 66 = .ok (.invokevirtual 107, 3) := by decide +kernel
theorem dX2_doCommand_69 : decode cX2_doCommand 69 = .ok (.ireturn, 1) := by decide +kernel
theorem dX2_doCommand_70 : decode cX2_doCommand 70 = .ok (.aload_n 0, 1) := by decide +kernel
theorem dX2_doCommand_71 : decode cX2_doCommand 71 = .ok (.getfield 20, 3) := by decide +kernel
theorem dX2_doCommand_74 : decode cX2_doCommand 74 = .ok (.aload_n 0, 1) := by decide +kernel
theorem dX2_doCommand_75 : decode cX2_doCommand 75 = .ok (.iload_n 1, 1) := by decide +kernel
theorem dX2_doCommand_76 : decode cX2_doCommand 76 = .ok (.iconst 1, 1) := by decide +kernel
theorem dX2_doCommand_77 : decode cX2_doCommand 77 = .ok (.iadd, 1) := by decide +kernel
theorem dX2_doCommand_78 : decode cX2_doCommand 78 = .ok (.invokevirtual 82, 3) := by decide +kernel
theorem dX2_doCommand_81 : decode cX2_doCommand 81 = .ok (.iconst 1, 1) := by decide +kernel
theorem dX2_doCommand_82 : decode cX2_doCommand 82 = .ok (.invokevirtual 110, 3) := by decide +kernel
theorem dX2_doCommand_85 : decode cX2_doCommand 85 = .ok (.ireturn, 1) := by decide +kernel
theorem dX2_doCommand_86 : decode cX2_doCommand 86 = .ok (.aload_n 0, 1) := by decide +kernel
theorem dX2_doCommand_87 : decode cX2_doCommand 87 = .ok (.getfield 20, 3) := by decide +kernel
theorem dX2_doCommand_90 : decode cX2_doCommand 90 = .ok (.aload_n 0, 1) := by decide +kernel
theorem dX2_doCommand_91 : decode cX2_doCommand 91 = .ok (.iload_n 1, 1) := by decide +kernel
theorem dX2_doCommand_92 : decode cX2_doCommand 92 = .ok (.iconst 1, 1) := by decide +kernel
theorem dX2_doCommand_93 : decode cX2_doCommand 93 = .ok (.iadd, 1) := by decide +kernel
theorem dX2_doCommand_94 : decode cX2_doCommand 94 = .ok (.invokevirtual 82, 3) := by decide +kernel
theorem dX2_doCommand_97 : decode cX2_doCommand 97 = .ok (.invokevirtual 114, 3) := by decide +kernel
theorem dX2_doCommand_100 : decode cX2_doCommand 100 = .ok (.ireturn, 1) := by decide +kernel
theorem dX2_doCommand_101 : decode cX2_doCommand 101 = .ok (.aload_n 0, 1) := by decide +kernel
theorem dX2_doCommand_102 : decode cX2_doCommand 102 = .ok (.getfield 20, 3) := by decide +kernel
theorem dX2_doCommand_105 : decode cX2_doCommand 105 = .ok (.aload_n 0, 1) := by decide +kernel
theorem dX2_doCommand_106 : decode cX2_doCommand 106 = .ok (.iload_n 1, 1) := by decide +kernel
theorem dX2_doCommand_107 : decode cX2_doCommand 107 = .ok (.iconst 1, 1) := by decide +kernel
theorem dX2_doCommand_108 : decode cX2_doCommand 108 = .ok (.iadd, 1) := by decide +kernel
theorem dX2_doCommand_109 : decode cX2_doCommand 109 = .ok (.invokevirtual 117, 3) := by decide +kernel
theorem dX2_doCommand_112 : decode cX2_doCommand 112 = .ok (.invokevirtual 120, 3) := by decide +kernel
theorem dX2_doCommand_115 : decode cX2_doCommand 115 = .ok (.ireturn, 1) := by decide +kernel
theorem dX2_doCommand_116 : decode cX2_doCommand 116 = .ok (.iconst 0, 1) := by decide +kernel
theorem dX2_doCommand_117 : decode cX2_doCommand 117 = .ok (.ireturn, 1) := by decide +kernel
theorem dX2_doArrival_0 : decode cX2_doArrival 0 = .ok (.aload_n 0, 1) := by decide +kernel
theorem dX2_doArrival_1 : decode cX2_doArrival 1 = .ok (.iload_n 1, 1) := by decide +kernel
theorem dX2_doArrival_2 : decode cX2_doArrival 2 = .ok (.iconst 4, 1) := by decide +kernel
theorem dX2_doArrival_3 : decode cX2_doArrival 3 = .ok (.iadd, 1) := by decide +kernel
theorem dX2_doArrival_4 : decode cX2_doArrival 4 = .ok (.invokevirtual 56, 3) := by decide +kernel
theorem dX2_doArrival_7 : decode cX2_doArrival 7 = .ok (.bipush 120, 2) := by decide +kernel
theorem dX2_doArrival_9 : decode cX2_doArrival 9 = .ok (.if_icmp .ne 7, 3) := by decide +kernel
theorem dX2_doArrival_12 : decode cX2_doArrival 12 = .ok (.iconst 1, 1) := by decide +kernel
theorem dX2_doArrival_13 : decode cX2_doArrival 13 = .ok (.goto 4, 3) := by decide +kernel
theorem dX2_doArrival_16 : decode cX2_doArrival 16 = .ok (.iconst 0, 1) := by decide +kernel
theorem dX2_doArrival_17 : decode cX2_doArrival 17 = .ok (.istore_n 2, 1) := by decide +kernel
theorem dX2_doArrival_18 : decode cX2_doArrival 18 = .ok (.aload_n 0, 1) := by decide +kernel
theorem dX2_doArrival_19 : decode cX2_doArrival 19 = .ok (.iload_n 2, 1) := by decide +kernel
theorem dX2_doArrival_20 : decode cX2_doArrival 20 = .ok (.ifCond .eq 9, 3) := by decide +kernel
theorem dX2_doArrival_23 : decode cX2_doArrival 23 = .ok (.iload_n 1, 1) := by decide +kernel
theorem dX2_doArrival_24 : decode cX2_doArrival 24 = .ok (.iconst 5, 1) := by decide +kernel
theorem dX2_doArrival_25 : decode cX2_doArrival 25 = .ok (.iadd, 1) := by decide +kernel
theorem dX2_doArrival_26 : decode cX2_doArrival 26 = .ok (.goto 6, 3) := by decide +kernel
theorem dX2_doArrival_29 : decode cX2_doArrival 29 = .ok (.iload_n 1, 1) := by decide +kernel
theorem dX2_doArrival_30 : decode cX2_doArrival 30 = .ok (.iconst 4, 1) := by decide +kernel
theorem dX2_doArrival_31 : decode cX2_doArrival 31 = .ok (.iadd, 1) := by decide +kernel
theorem dX2_doArrival_32 : decode cX2_doArrival 32 = .ok (.invokevirtual 56, 3) := by decide +kernel
theorem dX2_doArrival_35 : decode cX2_doArrival 35 = .ok (.bipush 102, 2) := by decide +kernel
theorem dX2_doArrival_37 : decode cX2_doArrival 37 = .ok (.if_icmp .ne 7, 3) := by decide +kernel
theorem dX2_doArrival_40 : decode cX2_doArrival 40 = .ok (.iconst 1, 1) := by decide +kernel
theorem dX2_doArrival_41 : decode cX2_doArrival 41 = .ok (.goto 4, 3) := by decide +kernel
theorem dX2_doArrival_44 : decode cX2_doArrival 44 = .ok (.iconst 0, 1) := by decide +kernel
theorem dX2_doArrival_45 : decode cX2_doArrival 45 = .ok (.istore_n 3, 1) := by decide +kernel
theorem dX2_doArrival_46 : decode cX2_doArrival 46 = .ok (.aload_n 0, 1) := by decide +kernel
theorem dX2_doArrival_47 : decode cX2_doArrival 47 = .ok (.getfield 20, 3) := by decide +kernel
theorem dX2_doArrival_50 : decode cX2_doArrival 50 = .ok (.aload_n 0, 1) := by decide +kernel
theorem dX2_doArrival_51 : decode cX2_doArrival 51 = .ok (.iload_n 1, 1) := by decide +kernel
theorem dX2_doArrival_52 : decode cX2_doArrival 52 = .ok (.iconst 1, 1) := by decide +kernel
theorem dX2_doArrival_53 : decode cX2_doArrival 53 = .ok (.iadd, 1) := by decide +kernel
theorem dX2_doArrival_54 : decode cX2_doArrival 54 = .ok (.invokevirtual 82, 3) := by decide +kernel
theorem dX2_doArrival_57 : decode cX2_doArrival 57 = .ok (.aload_n 0, 1) := by decide +kernel
theorem dX2_doArrival_58 : decode cX2_doArrival 58 = .ok (.iload_n 1, 1) := by decide +kernel
theorem dX2_doArrival_59 : decode cX2_doArrival 59 = .ok (.iconst 2, 1) := by decide +kernel
theorem dX2_doArrival_60 : decode cX2_doArrival 60 = .ok (.iadd, 1) := by decide +kernel
theorem dX2_doArrival_61 : decode cX2_doArrival 61 = .ok (.invokevirtual 117, 3) := by decide +kernel
theorem dX2_doArrival_64 : decode cX2_doArrival 64 = .ok (.iload_n 2, 1) := by decide +kernel
theorem dX2_doArrival_65 : decode cX2_doArrival 65 = .ok (.iload_n 3, 1) := by decide +kernel
theorem dX2_doArrival_66 : decode cX2_doArrival 66 = .ok (.invokevirtual 123, 3) := by decide +kernel
theorem dX2_doArrival_69 : decode cX2_doArrival 69 = .ok (.ireturn, 1) := by decide +kernel
theorem dX2_about_0 : decode cX2_about 0 = .ok (.iload_n 1, 1) := by decide +kernel
theorem dX2_about_1 : decode cX2_about 1 = .ok (.ifCond .lt 9, 3) := by decide +kernel
theorem dX2_about_4 : decode cX2_about 4 = .ok (.iload_n 1, 1) := by decide +kernel
theorem dX2_about_5 : decode cX2_about 5 = .ok (.bipush 9, 2) := by decide +kernel
theorem dX2_about_7 : decode cX2_about 7 = .ok (.if_icmp .le 13, 3) := by decide +kernel
theorem dX2_about_10 : decode cX2_about 10 = .ok (.new 44, 3) := by decide +kernel
theorem dX2_about_13 : decode cX2_about 13 = .ok (.dup, 1) := by decide +kernel
theorem dX2_about_14 : decode cX2_about 14 = .ok (.ldc 127, 2) := by decide +kernel
theorem dX2_about_16 : decode cX2_about 16 = .ok (.invokespecial 48, 3) := by decide +kernel
theorem dX2_about_19 : decode cX2_about 19 = .ok (.athrow, 1) := by decide +kernel
theorem dX2_about_20 : decode cX2_about 20 = .ok (.iload_n 1, 1) := by decide +kernel
theorem dX2_about_21 : decode cX2_about 21 = .ok (.ifCond .ne 11, 3) := by decide +kernel
theorem dX2_about_24 : decode cX2_about 24 = .ok (.aload_n 0, 1) := by decide +kernel
theorem dX2_about_25 : decode cX2_about 25 = .ok (.getfield 20, 3) := by decide +kernel
theorem dX2_about_28 : decode cX2_about 28 = .ok (.getfield 129, 3) := by decide +kernel
theorem dX2_about_31 : decode cX2_about 31 = .ok (.ireturn, 1) := by decide +kernel
theorem dX2_about_32 : decode cX2_about 32 = .ok (.iload_n 1, 1) := by decide +kernel
theorem dX2_about_33 : decode cX2_about 33 = .ok (.iconst 1, 1) := by decide +kernel
theorem dX2_about_34 : decode cX2_about 34 = .ok (.if_icmp .ne 13, 3) := by decide +kernel
theorem dX2_about_37 : decode cX2_about 37 = .ok (.aload_n 0, 1) := by decide +kernel
theorem dX2_about_38 : decode cX2_about 38 = .ok (.getfield 20, 3) := by decide +kernel
theorem dX2_about_41 : decode cX2_about 41 = .ok (.getfield 132, 3) := by decide +kernel
theorem dX2_about_44 : decode cX2_about 44 = .ok (.goto 11, 3) := by decide +kernel
theorem dX2_about_47 : decode cX2_about 47 = .ok (.aload_n 0, 1) := by decide +kernel
theorem dX2_about_48 : decode cX2_about 48 = .ok (.getfield 20, 3) := by decide +kernel
theorem dX2_about_51 : decode cX2_about 51 = .ok (.iload_n 1, 1) := by decide +kernel
theorem dX2_about_52 : decode cX2_about 52 = .ok (.invokevirtual 135, 3) := by decide +kernel
theorem dX2_about_55 : decode cX2_about 55 = .ok (.ireturn, 1) := by decide +kernel
theorem dX2_laneOf_0 : decode cX2_laneOf 0 = .ok (.aload_n 0, 1) := by decide +kernel
theorem dX2_laneOf_1 : decode cX2_laneOf 1 = .ok (.iload_n 1, 1) := by decide +kernel
theorem dX2_laneOf_2 : decode cX2_laneOf 2 = .ok (.invokevirtual 138, 3) := by decide +kernel
theorem dX2_laneOf_5 : decode cX2_laneOf 5 = .ok (.iload_n 2, 1) := by decide +kernel
theorem dX2_laneOf_6 : decode cX2_laneOf 6 = .ok (.ifCond .lt 9, 3) := by decide +kernel
theorem dX2_laneOf_9 : decode cX2_laneOf 9 = .ok (.iload_n 2, 1) := by decide +kernel
theorem dX2_laneOf_10 : decode cX2_laneOf 10 = .ok (.bipush 7, 2) := by decide +kernel
theorem dX2_laneOf_12 : decode cX2_laneOf 12 = .ok (.if_icmp .le 13, 3) := by decide +kernel
theorem dX2_laneOf_15 : decode cX2_laneOf 15 = .ok (.new 44, 3) := by decide +kernel
theorem dX2_laneOf_18 : decode cX2_laneOf 18 = .ok (.dup, 1) := by decide +kernel
theorem dX2_laneOf_19 : decode cX2_laneOf 19 = .ok (.ldc 142, 2) := by decide +kernel
theorem dX2_laneOf_21 : decode cX2_laneOf 21 = .ok (.invokespecial 48, 3) := by decide +kernel
theorem dX2_laneOf_24 : decode cX2_laneOf 24 = .ok (.athrow, 1) := by decide +kernel
theorem dX2_laneOf_25 : decode cX2_laneOf 25 = .ok (.aload_n 0, 1) := by decide +kernel
theorem dX2_laneOf_26 : decode cX2_laneOf 26 = .ok (.getfield 20, 3) := by decide +kernel
theorem dX2_laneOf_29 : decode cX2_laneOf 29 = .ok (.getfield 144, 3) := by decide +kernel
theorem dX2_laneOf_32 : decode cX2_laneOf 32 = .ok (.iload_n 1, 1) := by decide +kernel
theorem dX2_laneOf_33 : decode cX2_laneOf 33 = .ok (.aaload, 1) := by decide +kernel
theorem dX2_laneOf_34 : decode cX2_laneOf 34 = .ok (.iload_n 2, 1) := by decide +kernel
theorem dX2_laneOf_35 : decode cX2_laneOf 35 = .ok (.invokevirtual 148, 3) := by decide +kernel
theorem dX2_laneOf_38 : decode cX2_laneOf 38 = .ok (.ireturn, 1) := by decide +kernel
theorem dX2_vehicle_0 : decode cX2_vehicle 0 = .ok (.aload_n 0, 1) := by decide +kernel
theorem dX2_vehicle_1 : decode cX2_vehicle 1 = .ok (.iload_n 1, 1) := by decide +kernel
theorem dX2_vehicle_2 : decode cX2_vehicle 2 = .ok (.iload_n 2, 1) := by decide +kernel
theorem dX2_vehicle_3 : decode cX2_vehicle 3 = .ok (.invokevirtual 153, 3) := by decide +kernel
theorem dX2_vehicle_6 : decode cX2_vehicle 6 = .ok (.iload_n 3, 1) := by decide +kernel
theorem dX2_vehicle_7 : decode cX2_vehicle 7 = .ok (.ifCond .lt 8, 3) := by decide +kernel
theorem dX2_vehicle_10 : decode cX2_vehicle 10 = .ok (.iload_n 3, 1) := by decide +kernel
theorem dX2_vehicle_11 : decode cX2_vehicle 11 = .ok (.iconst 4, 1) := by decide +kernel
theorem dX2_vehicle_12 : decode cX2_vehicle 12 = .ok (.if_icmp .le 13, 3) := by decide +kernel
theorem dX2_vehicle_15 : decode cX2_vehicle 15 = .ok (.new 44, 3) := by decide +kernel
theorem dX2_vehicle_18 : decode cX2_vehicle 18 = .ok (.dup, 1) := by decide +kernel
theorem dX2_vehicle_19 : decode cX2_vehicle 19 = .ok (.ldc 157, 2) := by decide +kernel
theorem dX2_vehicle_21 : decode cX2_vehicle 21 = .ok (.invokespecial 48, 3) := by decide +kernel
theorem dX2_vehicle_24 : decode cX2_vehicle 24 = .ok (.athrow, 1) := by decide +kernel
theorem dX2_vehicle_25 : decode cX2_vehicle 25 = .ok (.aload_n 0, 1) := by decide +kernel
theorem dX2_vehicle_26 : decode cX2_vehicle 26 = .ok (.getfield 20, 3) := by decide +kernel
theorem dX2_vehicle_29 : decode cX2_vehicle 29 = .ok (.getfield 144, 3) := by decide +kernel
theorem dX2_vehicle_32 : decode cX2_vehicle 32 = .ok (.iload_n 1, 1) := by decide +kernel
theorem dX2_vehicle_33 : decode cX2_vehicle 33 = .ok (.aaload, 1) := by decide +kernel
theorem dX2_vehicle_34 : decode cX2_vehicle 34 = .ok (.iload_n 2, 1) := by decide +kernel
theorem dX2_vehicle_35 : decode cX2_vehicle 35 = .ok (.iload_n 3, 1) := by decide +kernel
theorem dX2_vehicle_36 : decode cX2_vehicle 36 = .ok (.invokevirtual 159, 3) := by decide +kernel
theorem dX2_vehicle_39 : decode cX2_vehicle 39 = .ok (.ireturn, 1) := by decide +kernel
theorem dX2_why_0 : decode cX2_why 0 = .ok (.aload_n 0, 1) := by decide +kernel
theorem dX2_why_1 : decode cX2_why 1 = .ok (.iload_n 1, 1) := by decide +kernel
theorem dX2_why_2 : decode cX2_why 2 = .ok (.invokevirtual 138, 3) := by decide +kernel
theorem dX2_why_5 : decode cX2_why 5 = .ok (.aload_n 0, 1) := by decide +kernel
theorem dX2_why_6 : decode cX2_why 6 = .ok (.getfield 20, 3) := by decide +kernel
theorem dX2_why_9 : decode cX2_why 9 = .ok (.getfield 144, 3) := by decide +kernel
theorem dX2_why_12 : decode cX2_why 12 = .ok (.iload_n 1, 1) := by decide +kernel
theorem dX2_why_13 : decode cX2_why 13 = .ok (.aaload, 1) := by decide +kernel
theorem dX2_why_14 : decode cX2_why 14 = .ok (.invokevirtual 163, 3) := by decide +kernel
theorem dX2_why_17 : decode cX2_why 17 = .ok (.ireturn, 1) := by decide +kernel
theorem dX2_setting_0 : decode cX2_setting 0 = .ok (.iload_n 1, 1) := by decide +kernel
theorem dX2_setting_1 : decode cX2_setting 1 = .ok (.ifCond .lt 8, 3) := by decide +kernel
theorem dX2_setting_4 : decode cX2_setting 4 = .ok (.iload_n 1, 1) := by decide +kernel
theorem dX2_setting_5 : decode cX2_setting 5 = .ok (.iconst 3, 1) := by decide +kernel
theorem dX2_setting_6 : decode cX2_setting 6 = .ok (.if_icmp .lt 13, 3) := by decide +kernel
theorem dX2_setting_9 : decode cX2_setting 9 = .ok (.new 44, 3) := by decide +kernel
theorem dX2_setting_12 : decode cX2_setting 12 = .ok (.dup, 1) := by decide +kernel
theorem dX2_setting_13 : decode cX2_setting 13 = .ok (.ldc 166, 2) := by decide +kernel
theorem dX2_setting_15 : decode cX2_setting 15 = .ok (.invokespecial 48, 3) := by decide +kernel
theorem dX2_setting_18 : decode cX2_setting 18 = .ok (.athrow, 1) := by decide +kernel
theorem dX2_setting_19 : decode cX2_setting 19 = .ok (.aload_n 0, 1) := by decide +kernel
theorem dX2_setting_20 : decode cX2_setting 20 = .ok (.getfield 20, 3) := by decide +kernel
theorem dX2_setting_23 : decode cX2_setting 23 = .ok (.getfield 168, 3) := by decide +kernel
theorem dX2_setting_26 : decode cX2_setting 26 = .ok (.iload_n 1, 1) := by decide +kernel
theorem dX2_setting_27 : decode cX2_setting 27 = .ok (.iaload, 1) := by decide +kernel
theorem dX2_setting_28 : decode cX2_setting 28 = .ok (.ireturn, 1) := by decide +kernel
theorem dX2_checkLane_0 : decode cX2_checkLane 0 = .ok (.aload_n 0, 1) := by decide +kernel
theorem dX2_checkLane_1 : decode cX2_checkLane 1 = .ok (.getfield 20, 3) := by decide +kernel
theorem dX2_checkLane_4 : decode cX2_checkLane 4 = .ok (.iload_n 1, 1) := by decide +kernel
theorem dX2_checkLane_5 : decode cX2_checkLane 5 = .ok (.invokevirtual 172, 3) := by decide +kernel
theorem dX2_checkLane_8 : decode cX2_checkLane 8 = .ok (.ifCond .ne 13, 3) := by decide +kernel
theorem dX2_checkLane_11 : decode cX2_checkLane 11 = .ok (.new 175, 3) := by decide +kernel
theorem dX2_checkLane_14 : decode cX2_checkLane 14 = .ok (.dup, 1) := by decide +kernel
theorem dX2_checkLane_15 : decode cX2_checkLane 15 = .ok (.ldc 177, 2) := by decide +kernel
theorem dX2_checkLane_17 : decode cX2_checkLane 17 = .ok (.invokespecial 179, 3) := by decide +kernel
theorem dX2_checkLane_20 : decode cX2_checkLane 20 = .ok (.athrow, 1) := by decide +kernel
theorem dX2_checkLane_21 : decode cX2_checkLane 21 = .ok (.return_, 1) := by decide +kernel
theorem dX2_checkVehicle_0 : decode cX2_checkVehicle 0 = .ok (.aload_n 0, 1) := by decide +kernel
theorem dX2_checkVehicle_1 : decode cX2_checkVehicle 1 = .ok (.iload_n 1, 1) := by decide +kernel
theorem dX2_checkVehicle_2 : decode cX2_checkVehicle 2 = .ok (.invokevirtual 138, 3) := by decide +kernel
theorem dX2_checkVehicle_5 : decode cX2_checkVehicle 5 = .ok (.aload_n 0, 1) := by decide +kernel
theorem dX2_checkVehicle_6 : decode cX2_checkVehicle 6 = .ok (.getfield 20, 3) := by decide +kernel
theorem dX2_checkVehicle_9 : decode cX2_checkVehicle 9 = .ok (.getfield 144, 3) := by decide +kernel
theorem dX2_checkVehicle_12 : decode cX2_checkVehicle 12 = .ok (.iload_n 1, 1) := by decide +kernel
theorem dX2_checkVehicle_13 : decode cX2_checkVehicle 13 = .ok (.aaload, 1) := by decide +kernel
theorem dX2_checkVehicle_14 : decode cX2_checkVehicle 14 = .ok (.iload_n 2, 1) := by decide +kernel
theorem dX2_checkVehicle_15 : decode cX2_checkVehicle 15 = .ok (.invokevirtual 180, 3) := by decide +kernel
theorem dX2_checkVehicle_18 : decode cX2_checkVehicle 18 = .ok (.ifCond .ne 13, 3) := by decide +kernel
theorem dX2_checkVehicle_21 : decode cX2_checkVehicle 21 = .ok (.new 175, 3) := by decide +kernel
theorem dX2_checkVehicle_24 : decode cX2_checkVehicle 24 = .ok (.dup, 1) := by decide +kernel
theorem dX2_checkVehicle_25 : decode cX2_checkVehicle 25 = .ok (.ldc 183, 2) := by decide +kernel
theorem dX2_checkVehicle_27 : decode cX2_checkVehicle 27 = .ok (.invokespecial 179, 3) := by decide +kernel
theorem dX2_checkVehicle_30 : decode cX2_checkVehicle 30 = .ok (.athrow, 1) := by decide +kernel
theorem dX2_checkVehicle_31 : decode cX2_checkVehicle 31 = .ok (.return_, 1) := by decide +kernel
theorem dX2_checkLength_0 : decode cX2_checkLength 0 = .ok (.iload_n 0, 1) := by decide +kernel
theorem dX2_checkLength_1 : decode cX2_checkLength 1 = .ok (.iconst 2, 1) := by decide +kernel
theorem dX2_checkLength_2 : decode cX2_checkLength 2 = .ok (.if_icmp .lt 9, 3) := by decide +kernel
theorem dX2_checkLength_5 : decode cX2_checkLength 5 = .ok (.iload_n 0, 1) := by decide +kernel
theorem dX2_checkLength_6 : decode cX2_checkLength 6 = .ok (.bipush 12, 2) := by decide +kernel
theorem dX2_checkLength_8 : decode cX2_checkLength 8 = .ok (.if_icmp .le 13, 3) := by decide +kernel
theorem dX2_checkLength_11 : decode cX2_checkLength 11 = .ok (.new 44, 3) := by decide +kernel
theorem dX2_checkLength_14 : decode cX2_checkLength 14 = .ok (.dup, 1) := by decide +kernel
theorem dX2_checkLength_15 : decode cX2_checkLength 15 = .ok (.ldc 185, 2) := by decide +kernel
theorem dX2_checkLength_17 : decode cX2_checkLength 17 = .ok (.invokespecial 48, 3) := by decide +kernel
theorem dX2_checkLength_20 : decode cX2_checkLength 20 = .ok (.athrow, 1) := by decide +kernel
theorem dX2_checkLength_21 : decode cX2_checkLength 21 = .ok (.return_, 1) := by decide +kernel
theorem dX2_lane_0 : decode cX2_lane 0 = .ok (.aload_n 0, 1) := by decide +kernel
theorem dX2_lane_1 : decode cX2_lane 1 = .ok (.getfield 20, 3) := by decide +kernel
theorem dX2_lane_4 : decode cX2_lane 4 = .ok (.getfield 129, 3) := by decide +kernel
theorem dX2_lane_7 : decode cX2_lane 7 = .ok (.iconst 3, 1) := by decide +kernel
theorem dX2_lane_8 : decode cX2_lane 8 = .ok (.if_icmp .lt 13, 3) := by decide +kernel
theorem dX2_lane_11 : decode cX2_lane 11 = .ok (.new 51, 3) := by decide +kernel
theorem dX2_lane_14 : decode cX2_lane 14 = .ok (.dup, 1) := by decide +kernel
theorem dX2_lane_15 : decode cX2_lane 15 = .ok (.ldc 187, 2) := by decide +kernel
theorem dX2_lane_17 : decode cX2_lane 17 = .ok (.invokespecial 55, 3) := by decide +kernel
theorem dX2_lane_20 : decode cX2_lane 20 = .ok (.athrow, 1) := by decide +kernel
theorem dX2_lane_21 : decode cX2_lane 21 = .ok (.aload_n 0, 1) := by decide +kernel
theorem dX2_lane_22 : decode cX2_lane 22 = .ok (.invokevirtual 189, 3) := by decide +kernel
theorem dX2_lane_25 : decode cX2_lane 25 = .ok (.aload_n 0, 1) := by decide +kernel
theorem dX2_lane_26 : decode cX2_lane 26 = .ok (.getfield 20, 3) := by decide +kernel
theorem dX2_lane_29 : decode cX2_lane 29 = .ok (.invokevirtual 103, 3) := by decide +kernel
theorem dX2_lane_32 : decode cX2_lane 32 = .ok (.pop, 1) := by decide +kernel
theorem dX2_lane_33 : decode cX2_lane 33 = .ok (.aload_n 0, 1) := by decide +kernel
theorem dX2_lane_34 : decode cX2_lane 34 = .ok (.getfield 20, 3) := by decide +kernel
theorem dX2_lane_37 : decode cX2_lane 37 = .ok (.getfield 129, 3) := by decide +kernel
theorem dX2_lane_40 : decode cX2_lane 40 = .ok (.iconst 1, 1) := by decide +kernel
theorem dX2_lane_41 : decode cX2_lane 41 = .ok (.isub, 1) := by decide +kernel
theorem dX2_lane_42 : decode cX2_lane 42 = .ok (.ireturn, 1) := by decide +kernel
theorem dX2_arrive_0 : decode cX2_arrive 0 = .ok (.aload_n 0, 1) := by decide +kernel
theorem dX2_arrive_1 : decode cX2_arrive 1 = .ok (.iload_n 1, 1) := by decide +kernel
theorem dX2_arrive_2 : decode cX2_arrive 2 = .ok (.invokevirtual 138, 3) := by decide +kernel
theorem dX2_arrive_5 : decode cX2_arrive 5 = .ok (.iload_n 2, 1) := by decide +kernel
theorem dX2_arrive_6 : decode cX2_arrive 6 = .ok (.invokestatic 192, 3) := by decide +kernel
theorem dX2_arrive_9 : decode cX2_arrive 9 = .ok (.aload_n 0, 1) := by decide +kernel
theorem dX2_arrive_10 : decode cX2_arrive 10 = .ok (.getfield 20, 3) := by decide +kernel
theorem dX2_arrive_13 : decode cX2_arrive 13 = .ok (.getfield 144, 3) := by decide +kernel
theorem dX2_arrive_16 : decode cX2_arrive 16 = .ok (.iload_n 1, 1) := by decide +kernel
theorem dX2_arrive_17 : decode cX2_arrive 17 = .ok (.aaload, 1) := by decide +kernel
theorem dX2_arrive_18 : decode cX2_arrive 18 = .ok (.getfield 195, 3) := by decide +kernel
theorem dX2_arrive_21 : decode cX2_arrive 21 = .ok (.bipush 6, 2) := by decide +kernel
theorem dX2_arrive_23 : decode cX2_arrive 23 = .ok (.if_icmp .lt 13, 3) := by decide +kernel
theorem dX2_arrive_26 : decode cX2_arrive 26 = .ok (.new 51, 3) := by decide +kernel
theorem dX2_arrive_29 : decode cX2_arrive 29 = .ok (.dup, 1) := by decide +kernel
theorem dX2_arrive_30 : decode cX2_arrive 30 = .ok (.ldc 198, 2) := by decide +kernel
theorem dX2_arrive_32 : decode cX2_arrive 32 = .ok (.invokespecial 55, 3) := by decide +kernel
theorem dX2_arrive_35 : decode cX2_arrive 35 = .ok (.athrow, 1) := by decide +kernel
theorem dX2_arrive_36 : decode cX2_arrive 36 = .ok (.aload_n 0, 1) := by decide +kernel
theorem dX2_arrive_37 : decode cX2_arrive 37 = .ok (.invokevirtual 189, 3) := by decide +kernel
theorem dX2_arrive_40 : decode cX2_arrive 40 = .ok (.aload_n 0, 1) := by decide +kernel
theorem dX2_arrive_41 : decode cX2_arrive 41 = .ok (.getfield 20, 3) := by decide +kernel
theorem dX2_arrive_44 : decode cX2_arrive 44 = .ok (.iload_n 1, 1) := by decide +kernel
theorem dX2_arrive_45 : decode cX2_arrive 45 = .ok (.iload_n 2, 1) := by decide +kernel
theorem dX2_arrive_46 : decode cX2_arrive 46 = .ok (.iload_n 3, 1) := by decide +kernel
theorem dX2_arrive_47 : decode cX2_arrive 47 = .ok (.iload 4, 2) := by decide +kernel
theorem dX2_arrive_49 : decode cX2_arrive 49 = .ok (.invokevirtual 123, 3) := by decide +kernel
theorem dX2_arrive_52 : decode cX2_arrive 52 = .ok (.pop, 1) := by decide +kernel
theorem dX2_arrive_53 : decode cX2_arrive 53 = .ok (.aload_n 0, 1) := by decide +kernel
theorem dX2_arrive_54 : decode cX2_arrive 54 = .ok (.getfield 20, 3) := by decide +kernel
theorem dX2_arrive_57 : decode cX2_arrive 57 = .ok (.getfield 144, 3) := by decide +kernel
theorem dX2_arrive_60 : decode cX2_arrive 60 = .ok (.iload_n 1, 1) := by decide +kernel
theorem dX2_arrive_61 : decode cX2_arrive 61 = .ok (.aaload, 1) := by decide +kernel
theorem dX2_arrive_62 : decode cX2_arrive 62 = .ok (.getfield 195, 3) := by decide +kernel
theorem dX2_arrive_65 : decode cX2_arrive 65 = .ok (.ireturn, 1) := by decide +kernel
theorem dX2_loop_0 : decode cX2_loop 0 = .ok (.aload_n 0, 1) := by decide +kernel
theorem dX2_loop_1 : decode cX2_loop 1 = .ok (.iload_n 1, 1) := by decide +kernel
theorem dX2_loop_2 : decode cX2_loop 2 = .ok (.invokevirtual 138, 3) := by decide +kernel
theorem dX2_loop_5 : decode cX2_loop 5 = .ok (.aload_n 0, 1) := by decide +kernel
theorem dX2_loop_6 : decode cX2_loop 6 = .ok (.invokevirtual 189, 3) := by decide +kernel
theorem dX2_loop_9 : decode cX2_loop 9 = .ok (.aload_n 0, 1) := by decide +kernel
theorem dX2_loop_10 : decode cX2_loop 10 = .ok (.getfield 20, 3) := by decide +kernel
theorem dX2_loop_13 : decode cX2_loop 13 = .ok (.iload_n 1, 1) := by decide +kernel
theorem dX2_loop_14 : decode cX2_loop 14 = .ok (.iload_n 2, 1) := by decide +kernel
theorem dX2_loop_15 : decode cX2_loop 15 = .ok (.invokevirtual 110, 3) := by decide +kernel
theorem dX2_loop_18 : decode cX2_loop 18 = .ok (.pop, 1) := by decide +kernel
theorem dX2_loop_19 : decode cX2_loop 19 = .ok (.aload_n 0, 1) := by decide +kernel
theorem dX2_loop_20 : decode cX2_loop 20 = .ok (.getfield 20, 3) := by decide +kernel
theorem dX2_loop_23 : decode cX2_loop 23 = .ok (.bipush 8, 2) := by decide +kernel
theorem dX2_loop_25 : decode cX2_loop 25 = .ok (.invokevirtual 135, 3) := by decide +kernel
theorem dX2_loop_28 : decode cX2_loop 28 = .ok (.ireturn, 1) := by decide +kernel
theorem dX2_mend_0 : decode cX2_mend 0 = .ok (.aload_n 0, 1) := by decide +kernel
theorem dX2_mend_1 : decode cX2_mend 1 = .ok (.iload_n 1, 1) := by decide +kernel
theorem dX2_mend_2 : decode cX2_mend 2 = .ok (.invokevirtual 138, 3) := by decide +kernel
theorem dX2_mend_5 : decode cX2_mend 5 = .ok (.aload_n 0, 1) := by decide +kernel
theorem dX2_mend_6 : decode cX2_mend 6 = .ok (.getfield 20, 3) := by decide +kernel
theorem dX2_mend_9 : decode cX2_mend 9 = .ok (.getfield 144, 3) := by decide +kernel
theorem dX2_mend_12 : decode cX2_mend 12 = .ok (.iload_n 1, 1) := by decide +kernel
theorem dX2_mend_13 : decode cX2_mend 13 = .ok (.aaload, 1) := by decide +kernel
theorem dX2_mend_14 : decode cX2_mend 14 = .ok (.invokevirtual 200, 3) := by decide +kernel
theorem dX2_mend_17 : decode cX2_mend 17 = .ok (.ifCond .ne 13, 3) := by decide +kernel
theorem dX2_mend_20 : decode cX2_mend 20 = .ok (.new 51, 3) := by decide +kernel
theorem dX2_mend_23 : decode cX2_mend 23 = .ok (.dup, 1) := by decide +kernel
theorem dX2_mend_24 : decode cX2_mend 24 = .ok (.ldc 203, 2) := by decide +kernel
theorem dX2_mend_26 : decode cX2_mend 26 = .ok (.invokespecial 55, 3) := by decide +kernel
theorem dX2_mend_29 : decode cX2_mend 29 = .ok (.athrow, 1) := by decide +kernel
theorem dX2_mend_30 : decode cX2_mend 30 = .ok (.aload_n 0, 1) := by decide +kernel
theorem dX2_mend_31 : decode cX2_mend 31 = .ok (.invokevirtual 189, 3) := by decide +kernel
theorem dX2_mend_34 : decode cX2_mend 34 = .ok (.aload_n 0, 1) := by decide +kernel
theorem dX2_mend_35 : decode cX2_mend 35 = .ok (.getfield 20, 3) := by decide +kernel
theorem dX2_mend_38 : decode cX2_mend 38 = .ok (.iload_n 1, 1) := by decide +kernel
theorem dX2_mend_39 : decode cX2_mend 39 = .ok (.invokevirtual 114, 3) := by decide +kernel
theorem dX2_mend_42 : decode cX2_mend 42 = .ok (.pop, 1) := by decide +kernel
theorem dX2_mend_43 : decode cX2_mend 43 = .ok (.aload_n 0, 1) := by decide +kernel
theorem dX2_mend_44 : decode cX2_mend 44 = .ok (.getfield 20, 3) := by decide +kernel
theorem dX2_mend_47 : decode cX2_mend 47 = .ok (.getfield 144, 3) := by decide +kernel
theorem dX2_mend_50 : decode cX2_mend 50 = .ok (.iload_n 1, 1) := by decide +kernel
theorem dX2_mend_51 : decode cX2_mend 51 = .ok (.aaload, 1) := by decide +kernel
theorem dX2_mend_52 : decode cX2_mend 52 = .ok (.getfield 205, 3) := by decide +kernel
theorem dX2_mend_55 : decode cX2_mend 55 = .ok (.ireturn, 1) := by decide +kernel
theorem dX2_run_0 : decode cX2_run 0 = .ok (.iload_n 1, 1) := by decide +kernel
theorem dX2_run_1 : decode cX2_run 1 = .ok (.iconst 1, 1) := by decide +kernel
theorem dX2_run_2 : decode cX2_run 2 = .ok (.if_icmp .lt 9, 3) := by decide +kernel
theorem dX2_run_5 : decode cX2_run 5 = .ok (.iload_n 1, 1) := by decide +kernel
theorem dX2_run_6 : decode cX2_run 6 = .ok (.bipush 60, 2) := by decide +kernel
theorem dX2_run_8 : decode cX2_run 8 = .ok (.if_icmp .le 13, 3) := by decide +kernel
theorem dX2_run_11 : decode cX2_run 11 = .ok (.new 44, 3) := by decide +kernel
theorem dX2_run_14 : decode cX2_run 14 = .ok (.dup, 1) := by decide +kernel
theorem dX2_run_15 : decode cX2_run 15 = .ok (.ldc 208, 2) := by decide +kernel
theorem dX2_run_17 : decode cX2_run 17 = .ok (.invokespecial 48, 3) := by decide +kernel
theorem dX2_run_20 : decode cX2_run 20 = .ok (.athrow, 1) := by decide +kernel
theorem dX2_run_21 : decode cX2_run 21 = .ok (.aload_n 0, 1) := by decide +kernel
theorem dX2_run_22 : decode cX2_run 22 = .ok (.invokevirtual 189, 3) := by decide +kernel
theorem dX2_run_25 : decode cX2_run 25 = .ok (.aload_n 0, 1) := by decide +kernel
theorem dX2_run_26 : decode cX2_run 26 = .ok (.getfield 20, 3) := by decide +kernel
theorem dX2_run_29 : decode cX2_run 29 = .ok (.iconst 4, 1) := by decide +kernel
theorem dX2_run_30 : decode cX2_run 30 = .ok (.invokevirtual 135, 3) := by decide +kernel
theorem dX2_run_33 : decode cX2_run 33 = .ok (.aload_n 0, 1) := by decide +kernel
theorem dX2_run_34 : decode cX2_run 34 = .ok (.getfield 20, 3) := by decide +kernel
theorem dX2_run_37 : decode cX2_run 37 = .ok (.iconst 5, 1) := by decide +kernel
theorem dX2_run_38 : decode cX2_run 38 = .ok (.invokevirtual 135, 3) := by decide +kernel
theorem dX2_run_41 : decode cX2_run 41 = .ok (.iadd, 1) := by decide +kernel
theorem dX2_run_42 : decode cX2_run 42 = .ok (.istore_n 2, 1) := by decide +kernel
theorem dX2_run_43 : decode cX2_run 43 = .ok (.aload_n 0, 1) := by decide +kernel
theorem dX2_run_44 : decode cX2_run 44 = .ok (.getfield 20, 3) := by decide +kernel
theorem dX2_run_47 : decode cX2_run 47 = .ok (.iload_n 1, 1) := by decide +kernel
theorem dX2_run_48 : decode cX2_run 48 = .ok (.invokevirtual 120, 3) := by decide +kernel
theorem dX2_run_51 : decode cX2_run 51 = .ok (.pop, 1) := by decide +kernel
theorem dX2_run_52 : decode cX2_run 52 = .ok (.aload_n 0, 1) := by decide +kernel
theorem dX2_run_53 : decode cX2_run 53 = .ok (.getfield 20, 3) := by decide +kernel
theorem dX2_run_56 : decode cX2_run 56 = .ok (.iconst 4, 1) := by decide +kernel
theorem dX2_run_57 : decode cX2_run 57 = .ok (.invokevirtual 135, 3) := by decide +kernel
theorem dX2_run_60 : decode cX2_run 60 = .ok (.aload_n 0, 1) := by decide +kernel
theorem dX2_run_61 : decode cX2_run 61 = .ok (.getfield 20, 3) := by decide +kernel
theorem dX2_run_64 : decode cX2_run 64 = .ok (.iconst 5, 1) := by decide +kernel
theorem dX2_run_65 : decode cX2_run 65 = .ok (.invokevirtual 135, 3) := by decide +kernel
theorem dX2_run_68 : decode cX2_run 68 = .ok (.iadd, 1) := by decide +kernel
theorem dX2_run_69 : decode cX2_run 69 = .ok (.iload_n 2, 1) := by decide +kernel
theorem dX2_run_70 : decode cX2_run 70 = .ok (.isub, 1) := by decide +kernel
theorem dX2_run_71 : decode cX2_run 71 = .ok (.ireturn, 1) := by decide +kernel
theorem dX2_set_0 : decode cX2_set 0 = .ok (.iload_n 1, 1) := by decide +kernel
theorem dX2_set_1 : decode cX2_set 1 = .ok (.iload_n 2, 1) := by decide +kernel
theorem dX2_set_2 : decode cX2_set 2 = .ok (.invokestatic 210, 3) := by decide +kernel
theorem dX2_set_5 : decode cX2_set 5 = .ok (.ifCond .ne 13, 3) := by decide +kernel
theorem dX2_set_8 : decode cX2_set 8 = .ok (.new 44, 3) := by decide +kernel
theorem dX2_set_11 : decode cX2_set 11 = .ok (.dup, 1) := by decide +kernel
theorem dX2_set_12 : decode cX2_set 12 = .ok (.ldc 213, 2) := by decide +kernel
theorem dX2_set_14 : decode cX2_set 14 = .ok (.invokespecial 48, 3) := by decide +kernel
theorem dX2_set_17 : decode cX2_set 17 = .ok (.athrow, 1) := by decide +kernel
theorem dX2_set_18 : decode cX2_set 18 = .ok (.aload_n 0, 1) := by decide +kernel
theorem dX2_set_19 : decode cX2_set 19 = .ok (.invokevirtual 189, 3) := by decide +kernel
theorem dX2_set_22 : decode cX2_set 22 = .ok (.aload_n 0, 1) := by decide +kernel
theorem dX2_set_23 : decode cX2_set 23 = .ok (.getfield 20, 3) := by decide +kernel
theorem dX2_set_26 : decode cX2_set 26 = .ok (.getfield 168, 3) := by decide +kernel
theorem dX2_set_29 : decode cX2_set 29 = .ok (.iload_n 1, 1) := by decide +kernel
theorem dX2_set_30 : decode cX2_set 30 = .ok (.iaload, 1) := by decide +kernel
theorem dX2_set_31 : decode cX2_set 31 = .ok (.istore_n 3, 1) := by decide +kernel
theorem dX2_set_32 : decode cX2_set 32 = .ok (.aload_n 0, 1) := by decide +kernel
theorem dX2_set_33 : decode cX2_set 33 = .ok (.getfield 20, 3) := by decide +kernel
theorem dX2_set_36 : decode cX2_set 36 = .ok (.iload_n 1, 1) := by decide +kernel
theorem dX2_set_37 : decode cX2_set 37 = .ok (.iload_n 2, 1) := by decide +kernel
theorem dX2_set_38 : decode cX2_set 38 = .ok (.invokevirtual 215, 3) := by decide +kernel
theorem dX2_set_41 : decode cX2_set 41 = .ok (.pop, 1) := by decide +kernel
theorem dX2_set_42 : decode cX2_set 42 = .ok (.iload_n 3, 1) := by decide +kernel
theorem dX2_set_43 : decode cX2_set 43 = .ok (.ireturn, 1) := by decide +kernel
theorem dX2_undo_0 : decode cX2_undo 0 = .ok (.aload_n 0, 1) := by decide +kernel
theorem dX2_undo_1 : decode cX2_undo 1 = .ok (.getfield 34, 3) := by decide +kernel
theorem dX2_undo_4 : decode cX2_undo 4 = .ok (.ifCond .gt 13, 3) := by decide +kernel
theorem dX2_undo_7 : decode cX2_undo 7 = .ok (.new 51, 3) := by decide +kernel
theorem dX2_undo_10 : decode cX2_undo 10 = .ok (.dup, 1) := by decide +kernel
theorem dX2_undo_11 : decode cX2_undo 11 = .ok (.ldc 218, 2) := by decide +kernel
theorem dX2_undo_13 : decode cX2_undo 13 = .ok (.invokespecial 55, 3) := by decide +kernel
theorem dX2_undo_16 : decode cX2_undo 16 = .ok (.athrow, 1) := by decide +kernel
theorem dX2_undo_17 : decode cX2_undo 17 = .ok (.aload_n 0, 1) := by decide +kernel
theorem dX2_undo_18 : decode cX2_undo 18 = .ok (.dup, 1) := by decide +kernel
theorem dX2_undo_19 : decode cX2_undo 19 = .ok (.getfield 34, 3) := by decide +kernel
theorem dX2_undo_22 : decode cX2_undo 22 = .ok (.iconst 1, 1) := by decide +kernel
theorem dX2_undo_23 : decode cX2_undo 23 = .ok (.isub, 1) := by decide +kernel
theorem dX2_undo_24 : decode cX2_undo 24 = .ok (.putfield 34, 3) := by decide +kernel
theorem dX2_undo_27 : decode cX2_undo 27 = .ok (.aload_n 0, 1) := by decide +kernel
theorem dX2_undo_28 : decode cX2_undo 28 = .ok (.getfield 20, 3) := by decide +kernel
theorem dX2_undo_31 : decode cX2_undo 31 = .ok (.aload_n 0, 1) := by decide +kernel
theorem dX2_undo_32 : decode cX2_undo 32 = .ok (.getfield 27, 3) := by decide +kernel
theorem dX2_undo_35 : decode cX2_undo 35 = .ok (.aload_n 0, 1) := by decide +kernel
theorem dX2_undo_36 : decode cX2_undo 36 = .ok (.getfield 31, 3) := by decide +kernel
theorem dX2_undo_39 : decode cX2_undo 39 = .ok (.aload_n 0, 1) := by decide +kernel
theorem dX2_undo_40 : decode cX2_undo 40 = .ok (.getfield 34, 3) := by decide +kernel
theorem dX2_undo_43 : decode cX2_undo 43 = .ok (.iadd, 1) := by decide +kernel
theorem dX2_undo_44 : decode cX2_undo 44 = .ok (.bipush 14, 2) := by decide +kernel
theorem dX2_undo_46 : decode cX2_undo 46 = .ok (.irem, 1) := by decide +kernel
theorem dX2_undo_47 : decode cX2_undo 47 = .ok (.aaload, 1) := by decide +kernel
theorem dX2_undo_48 : decode cX2_undo 48 = .ok (.invokevirtual 220, 3) := by decide +kernel
theorem dX2_undo_51 : decode cX2_undo 51 = .ok (.aload_n 0, 1) := by decide +kernel
theorem dX2_undo_52 : decode cX2_undo 52 = .ok (.getfield 34, 3) := by decide +kernel
theorem dX2_undo_55 : decode cX2_undo 55 = .ok (.ireturn, 1) := by decide +kernel
theorem dX2_isSetting_0 : decode cX2_isSetting 0 = .ok (.iload_n 0, 1) := by decide +kernel
theorem dX2_isSetting_1 : decode cX2_isSetting 1 = .ok (.tableswitch 51 0 2 #[27, 35, 43], 27) := by decide +kernel
theorem dX2_isSetting_28 : decode cX2_isSetting 28 = .ok (.iload_n 1, 1) := by decide +kernel
theorem dX2_isSetting_29 : decode cX2_isSetting 29 = .ok (.iconst 1, 1) := by decide +kernel
theorem dX2_isSetting_30 : decode cX2_isSetting 30 = .ok (.bipush 20, 2) := by decide +kernel
theorem dX2_isSetting_32 : decode cX2_isSetting 32 = .ok (.invokestatic 92, 3) := by decide +kernel
theorem dX2_isSetting_35 : decode cX2_isSetting 35 = .ok (.ireturn, 1) := by decide +kernel
theorem dX2_isSetting_36 : decode cX2_isSetting 36 = .ok (.iload_n 1, 1) := by decide +kernel
theorem dX2_isSetting_37 : decode cX2_isSetting 37 = .ok (.iconst 1, 1) := by decide +kernel
theorem dX2_isSetting_38 : decode cX2_isSetting 38 = .ok (.bipush 60, 2) := by decide +kernel
theorem dX2_isSetting_40 : decode cX2_isSetting 40 = .ok (.invokestatic 92, 3) := by decide +kernel
theorem dX2_isSetting_43 : decode cX2_isSetting 43 = .ok (.ireturn, 1) := by decide +kernel
theorem dX2_isSetting_44 : decode cX2_isSetting 44 = .ok (.iload_n 1, 1) := by decide +kernel
theorem dX2_isSetting_45 : decode cX2_isSetting 45 = .ok (.iconst 0, 1) := by decide +kernel
theorem dX2_isSetting_46 : decode cX2_isSetting 46 = .ok (.bipush 20, 2) := by decide +kernel
theorem dX2_isSetting_48 : decode cX2_isSetting 48 = .ok (.invokestatic 92, 3) := by decide +kernel
theorem dX2_isSetting_51 : decode cX2_isSetting 51 = .ok (.ireturn, 1) := by decide +kernel
theorem dX2_isSetting_52 : decode cX2_isSetting 52 = .ok (.iconst 0, 1) := by decide +kernel
theorem dX2_isSetting_53 : decode cX2_isSetting 53 = .ok (.ireturn, 1) := by decide +kernel
theorem dX2_remember_0 : decode cX2_remember 0 = .ok (.aload_n 0, 1) := by decide +kernel
theorem dX2_remember_1 : decode cX2_remember 1 = .ok (.getfield 27, 3) := by decide +kernel
theorem dX2_remember_4 : decode cX2_remember 4 = .ok (.aload_n 0, 1) := by decide +kernel
theorem dX2_remember_5 : decode cX2_remember 5 = .ok (.getfield 31, 3) := by decide +kernel
theorem dX2_remember_8 : decode cX2_remember 8 = .ok (.aload_n 0, 1) := by decide +kernel
theorem dX2_remember_9 : decode cX2_remember 9 = .ok (.getfield 34, 3) := by decide +kernel
theorem dX2_remember_12 : decode cX2_remember 12 = .ok (.iadd, 1) := by decide +kernel
theorem dX2_remember_13 : decode cX2_remember 13 = .ok (.bipush 14, 2) := by decide +kernel
theorem dX2_remember_15 : decode cX2_remember 15 = .ok (.irem, 1) := by decide +kernel
theorem dX2_remember_16 : decode cX2_remember 16 = .ok (.aaload, 1) := by decide +kernel
theorem dX2_remember_17 : decode cX2_remember 17 = .ok (.aload_n 0, 1) := by decide +kernel
theorem dX2_remember_18 : decode cX2_remember 18 = .ok (.getfield 20, 3) := by decide +kernel
theorem dX2_remember_21 : decode cX2_remember 21 = .ok (.invokevirtual 220, 3) := by decide +kernel
theorem dX2_remember_24 : decode cX2_remember 24 = .ok (.aload_n 0, 1) := by decide +kernel
theorem dX2_remember_25 : decode cX2_remember 25 = .ok (.getfield 34, 3) := by decide +kernel
theorem dX2_remember_28 : decode cX2_remember 28 = .ok (.bipush 14, 2) := by decide +kernel
theorem dX2_remember_30 : decode cX2_remember 30 = .ok (.if_icmp .ge 16, 3) := by decide +kernel
theorem dX2_remember_33 : decode cX2_remember 33 = .ok (.aload_n 0, 1) := by decide +kernel
theorem dX2_remember_34 : decode cX2_remember 34 = .ok (.dup, 1) := by decide +kernel
theorem dX2_remember_35 : decode cX2_remember 35 = .ok (.getfield 34, 3) := by decide +kernel
theorem dX2_remember_38 : decode cX2_remember 38 = .ok (.iconst 1, 1) := by decide +kernel
theorem dX2_remember_39 : decode cX2_remember 39 = .ok (.iadd, 1) := by decide +kernel
theorem dX2_remember_40 : decode cX2_remember 40 = .ok (.putfield 34, 3) := by decide +kernel
theorem dX2_remember_43 : decode cX2_remember 43 = .ok (.goto 16, 3) := by decide +kernel
theorem dX2_remember_46 : decode cX2_remember 46 = .ok (.aload_n 0, 1) := by decide +kernel
theorem dX2_remember_47 : decode cX2_remember 47 = .ok (.aload_n 0, 1) := by decide +kernel
theorem dX2_remember_48 : decode cX2_remember 48 = .ok (.getfield 31, 3) := by decide +kernel
theorem dX2_remember_51 : decode cX2_remember 51 = .ok (.iconst 1, 1) := by decide +kernel
theorem dX2_remember_52 : decode cX2_remember 52 = .ok (.iadd, 1) := by decide +kernel
theorem dX2_remember_53 : decode cX2_remember 53 = .ok (.bipush 14, 2) := by decide +kernel
theorem dX2_remember_55 : decode cX2_remember 55 = .ok (.irem, 1) := by decide +kernel
theorem dX2_remember_56 : decode cX2_remember 56 = .ok (.putfield 31, 3) := by decide +kernel
theorem dX2_remember_59 : decode cX2_remember 59 = .ok (.return_, 1) := by decide +kernel
theorem dX2_forgetAll_0 : decode cX2_forgetAll 0 = .ok (.aload_n 0, 1) := by decide +kernel
theorem dX2_forgetAll_1 : decode cX2_forgetAll 1 = .ok (.iconst 0, 1) := by decide +kernel
theorem dX2_forgetAll_2 : decode cX2_forgetAll 2 = .ok (.putfield 31, 3) := by decide +kernel
theorem dX2_forgetAll_5 : decode cX2_forgetAll 5 = .ok (.aload_n 0, 1) := by decide +kernel
theorem dX2_forgetAll_6 : decode cX2_forgetAll 6 = .ok (.iconst 0, 1) := by decide +kernel
theorem dX2_forgetAll_7 : decode cX2_forgetAll 7 = .ok (.putfield 34, 3) := by decide +kernel
theorem dX2_forgetAll_10 : decode cX2_forgetAll 10 = .ok (.return_, 1) := by decide +kernel
theorem dX2_emptyIn_0 : decode cX2_emptyIn 0 = .ok (.aload_n 0, 1) := by decide +kernel
theorem dX2_emptyIn_1 : decode cX2_emptyIn 1 = .ok (.iload_n 1, 1) := by decide +kernel
theorem dX2_emptyIn_2 : decode cX2_emptyIn 2 = .ok (.invokevirtual 138, 3) := by decide +kernel
theorem dX2_emptyIn_5 : decode cX2_emptyIn 5 = .ok (.aload_n 0, 1) := by decide +kernel
theorem dX2_emptyIn_6 : decode cX2_emptyIn 6 = .ok (.getfield 24, 3) := by decide +kernel
theorem dX2_emptyIn_9 : decode cX2_emptyIn 9 = .ok (.aload_n 0, 1) := by decide +kernel
theorem dX2_emptyIn_10 : decode cX2_emptyIn 10 = .ok (.getfield 20, 3) := by decide +kernel
theorem dX2_emptyIn_13 : decode cX2_emptyIn 13 = .ok (.invokevirtual 220, 3) := by decide +kernel
theorem dX2_emptyIn_16 : decode cX2_emptyIn 16 = .ok (.aload_n 0, 1) := by decide +kernel
theorem dX2_emptyIn_17 : decode cX2_emptyIn 17 = .ok (.getfield 24, 3) := by decide +kernel
theorem dX2_emptyIn_20 : decode cX2_emptyIn 20 = .ok (.getfield 144, 3) := by decide +kernel
theorem dX2_emptyIn_23 : decode cX2_emptyIn 23 = .ok (.iload_n 1, 1) := by decide +kernel
theorem dX2_emptyIn_24 : decode cX2_emptyIn 24 = .ok (.aaload, 1) := by decide +kernel
theorem dX2_emptyIn_25 : decode cX2_emptyIn 25 = .ok (.astore_n 2, 1) := by decide +kernel
theorem dX2_emptyIn_26 : decode cX2_emptyIn 26 = .ok (.iconst 0, 1) := by decide +kernel
theorem dX2_emptyIn_27 : decode cX2_emptyIn 27 = .ok (.istore_n 3, 1) := by decide +kernel
theorem dX2_emptyIn_28 : decode cX2_emptyIn 28 = .ok (.iload_n 3, 1) := by decide +kernel
theorem dX2_emptyIn_29 : decode cX2_emptyIn 29 = .ok (.sipush 400, 3) := by decide +kernel
theorem dX2_emptyIn_32 : decode cX2_emptyIn 32 = .ok (.if_icmp .gt 29, 3) := by decide +kernel
theorem dX2_emptyIn_35 : decode cX2_emptyIn 35 = .ok (.aload_n 2, 1) := by decide +kernel
theorem dX2_emptyIn_36 : decode cX2_emptyIn 36 = .ok (.getfield 195, 3) := by decide +kernel
theorem dX2_emptyIn_39 : decode cX2_emptyIn 39 = .ok (.ifCond .ne 5, 3) := by decide +kernel
theorem dX2_emptyIn_42 : decode cX2_emptyIn 42 = .ok (.iload_n 3, 1) := by decide +kernel
theorem dX2_emptyIn_43 : decode cX2_emptyIn 43 = .ok (.ireturn, 1) := by decide +kernel
theorem dX2_emptyIn_44 : decode cX2_emptyIn 44 = .ok (.aload_n 2, 1) := by decide +kernel
theorem dX2_emptyIn_45 : decode cX2_emptyIn 45 = .ok (.aload_n 0, 1) := by decide +kernel
theorem dX2_emptyIn_46 : decode cX2_emptyIn 46 = .ok (.getfield 24, 3) := by decide +kernel
theorem dX2_emptyIn_49 : decode cX2_emptyIn 49 = .ok (.getfield 168, 3) := by decide +kernel
theorem dX2_emptyIn_52 : decode cX2_emptyIn 52 = .ok (.invokevirtual 224, 3) := by decide +kernel
theorem dX2_emptyIn_55 : decode cX2_emptyIn 55 = .ok (.iinc 3 1, 3) := by decide +kernel
theorem dX2_emptyIn_58 : decode cX2_emptyIn 58 = .ok (.goto (-30), 3) := by decide +kernel
theorem dX2_emptyIn_61 : decode cX2_emptyIn 61 = .ok (.iconst (-1), 1) := by decide +kernel
theorem dX2_emptyIn_62 : decode cX2_emptyIn 62 = .ok (.ireturn, 1) := by decide +kernel
theorem dX2_throughIn_0 : decode cX2_throughIn 0 = .ok (.aload_n 0, 1) := by decide +kernel
theorem dX2_throughIn_1 : decode cX2_throughIn 1 = .ok (.iload_n 1, 1) := by decide +kernel
theorem dX2_throughIn_2 : decode cX2_throughIn 2 = .ok (.iload_n 2, 1) := by decide +kernel
theorem dX2_throughIn_3 : decode cX2_throughIn 3 = .ok (.invokevirtual 153, 3) := by decide +kernel
theorem dX2_throughIn_6 : decode cX2_throughIn 6 = .ok (.aload_n 0, 1) := by decide +kernel
theorem dX2_throughIn_7 : decode cX2_throughIn 7 = .ok (.getfield 24, 3) := by decide +kernel
theorem dX2_throughIn_10 : decode cX2_throughIn 10 = .ok (.aload_n 0, 1) := by decide +kernel
theorem dX2_throughIn_11 : decode cX2_throughIn 11 = .ok (.getfield 20, 3) := by decide +kernel
theorem dX2_throughIn_14 : decode cX2_throughIn 14 = .ok (.invokevirtual 220, 3) := by decide +kernel
theorem dX2_throughIn_17 : decode cX2_throughIn 17 = .ok (.aload_n 0, 1) := by decide +kernel
theorem dX2_throughIn_18 : decode cX2_throughIn 18 = .ok (.iload_n 1, 1) := by decide +kernel
theorem dX2_throughIn_19 : decode cX2_throughIn 19 = .ok (.iload_n 2, 1) := by decide +kernel
theorem dX2_throughIn_20 : decode cX2_throughIn 20 = .ok (.invokevirtual 228, 3) := by decide +kernel
theorem dX2_throughIn_23 : decode cX2_throughIn 23 = .ok (.ireturn, 1) := by decide +kernel
theorem dX2_bestLane_0 : decode cX2_bestLane 0 = .ok (.iload_n 1, 1) := by decide +kernel
theorem dX2_bestLane_1 : decode cX2_bestLane 1 = .ok (.invokestatic 192, 3) := by decide +kernel
theorem dX2_bestLane_4 : decode cX2_bestLane 4 = .ok (.iconst (-1), 1) := by decide +kernel
theorem dX2_bestLane_5 : decode cX2_bestLane 5 = .ok (.istore_n 2, 1) := by decide +kernel
theorem dX2_bestLane_6 : decode cX2_bestLane 6 = .ok (.sipush 401, 3) := by decide +kernel
theorem dX2_bestLane_9 : decode cX2_bestLane 9 = .ok (.istore_n 3, 1) := by decide +kernel
theorem dX2_bestLane_10 : decode cX2_bestLane 10 = .ok (.iconst 0, 1) := by decide +kernel
theorem dX2_bestLane_11 : decode cX2_bestLane 11 = .ok (.istore 4, 2) := by decide +kernel
theorem dX2_bestLane_13 : decode cX2_bestLane 13 = .ok (.iload 4, 2) := by decide +kernel
theorem dX2_bestLane_15 : decode cX2_bestLane 15 = .ok (.aload_n 0, 1) := by decide +kernel
theorem dX2_bestLane_16 : decode cX2_bestLane 16 = .ok (.getfield 20, 3) := by decide +kernel
theorem dX2_bestLane_19 : decode cX2_bestLane 19 = .ok (.getfield 129, 3) := by decide +kernel
theorem dX2_bestLane_22 : decode cX2_bestLane 22 = .ok (.if_icmp .ge 76, 3) := by decide +kernel
theorem dX2_bestLane_25 : decode cX2_bestLane 25 = .ok (.aload_n 0, 1) := by decide +kernel
theorem dX2_bestLane_26 : decode cX2_bestLane 26 = .ok (.getfield 24, 3) := by decide +kernel
theorem dX2_bestLane_29 : decode cX2_bestLane 29 = .ok (.aload_n 0, 1) := by decide +kernel
theorem dX2_bestLane_30 : decode cX2_bestLane 30 = .ok (.getfield 20, 3) := by decide +kernel
theorem dX2_bestLane_33 : decode cX2_bestLane 33 = .ok (.invokevirtual 220, 3) := by decide +kernel
theorem dX2_bestLane_36 : decode cX2_bestLane 36 = .ok (.aload_n 0, 1) := by decide +kernel
theorem dX2_bestLane_37 : decode cX2_bestLane 37 = .ok (.getfield 24, 3) := by decide +kernel
theorem dX2_bestLane_40 : decode cX2_bestLane 40 = .ok (.iload 4, 2) := by decide +kernel
theorem dX2_bestLane_42 : decode cX2_bestLane 42 = .ok (.iload_n 1, 1) := by decide +kernel
theorem dX2_bestLane_43 : decode cX2_bestLane 43 = .ok (.iconst 0, 1) := by decide +kernel
theorem dX2_bestLane_44 : decode cX2_bestLane 44 = .ok (.iconst 0, 1) := by decide +kernel
theorem dX2_bestLane_45 : decode cX2_bestLane 45 = .ok (.invokevirtual 123, 3) := by decide +kernel
theorem dX2_bestLane_48 : decode cX2_bestLane 48 = .ok (.ifCond .eq 44, 3) := by decide +kernel
theorem dX2_bestLane_51 : decode cX2_bestLane 51 = .ok (.aload_n 0, 1) := by decide +kernel
theorem dX2_bestLane_52 : decode cX2_bestLane 52 = .ok (.iload 4, 2) := by decide +kernel
theorem dX2_bestLane_54 : decode cX2_bestLane 54 = .ok (.aload_n 0, 1) := by decide +kernel
theorem dX2_bestLane_55 : decode cX2_bestLane 55 = .ok (.getfield 24, 3) := by decide +kernel
theorem dX2_bestLane_58 : decode cX2_bestLane 58 = .ok (.getfield 144, 3) := by decide +kernel
theorem dX2_bestLane_61 : decode cX2_bestLane 61 = .ok (.iload 4, 2) := by decide +kernel
theorem dX2_bestLane_63 : decode cX2_bestLane 63 = .ok (.aaload, 1) := by decide +kernel
theorem dX2_bestLane_64 : decode cX2_bestLane 64 = .ok (.getfield 195, 3) := by decide +kernel
theorem dX2_bestLane_67 : decode cX2_bestLane 67 = .ok (.iconst 1, 1) := by decide +kernel
theorem dX2_bestLane_68 : decode cX2_bestLane 68 = .ok (.isub, 1) := by decide +kernel
theorem dX2_bestLane_69 : decode cX2_bestLane 69 = .ok (.invokevirtual 228, 3) := by decide +kernel
theorem dX2_bestLane_72 : decode cX2_bestLane 72 = .ok (.istore 5, 2) := by decide +kernel
theorem dX2_bestLane_74 : decode cX2_bestLane 74 = .ok (.iload 5, 2) := by decide +kernel
theorem dX2_bestLane_76 : decode cX2_bestLane 76 = .ok (.iconst (-1), 1) := by decide +kernel
theorem dX2_bestLane_77 : decode cX2_bestLane 77 = .ok (.if_icmp .eq 15, 3) := by decide +kernel
theorem dX2_bestLane_80 : decode cX2_bestLane 80 = .ok (.iload 5, 2) := by decide +kernel
theorem dX2_bestLane_82 : decode cX2_bestLane 82 = .ok (.iload_n 3, 1) := by decide +kernel
theorem dX2_bestLane_83 : decode cX2_bestLane 83 = .ok (.if_icmp .ge 9, 3) := by decide +kernel
theorem dX2_bestLane_86 : decode cX2_bestLane 86 = .ok (.iload 4, 2) := by decide +kernel
theorem dX2_bestLane_88 : decode cX2_bestLane 88 = .ok (.istore_n 2, 1) := by decide +kernel
theorem dX2_bestLane_89 : decode cX2_bestLane 89 = .ok (.iload 5, 2) := by decide +kernel
theorem dX2_bestLane_91 : decode cX2_bestLane 91 = .ok (.istore_n 3, 1) := by decide +kernel
theorem dX2_bestLane_92 : decode cX2_bestLane 92 = .ok (.iinc 4 1, 3) := by decide +kernel
theorem dX2_bestLane_95 : decode cX2_bestLane 95 = .ok (.goto (-82), 3) := by decide +kernel
theorem dX2_bestLane_98 : decode cX2_bestLane 98 = .ok (.iload_n 2, 1) := by decide +kernel
theorem dX2_bestLane_99 : decode cX2_bestLane 99 = .ok (.ireturn, 1) := by decide +kernel
theorem dX2_coming_0 : decode cX2_coming 0 = .ok (.iload_n 1, 1) := by decide +kernel
theorem dX2_coming_1 : decode cX2_coming 1 = .ok (.iconst 1, 1) := by decide +kernel
theorem dX2_coming_2 : decode cX2_coming 2 = .ok (.if_icmp .lt 10, 3) := by decide +kernel
theorem dX2_coming_5 : decode cX2_coming 5 = .ok (.iload_n 1, 1) := by decide +kernel
theorem dX2_coming_6 : decode cX2_coming 6 = .ok (.sipush 400, 3) := by decide +kernel
theorem dX2_coming_9 : decode cX2_coming 9 = .ok (.if_icmp .le 13, 3) := by decide +kernel
theorem dX2_coming_12 : decode cX2_coming 12 = .ok (.new 44, 3) := by decide +kernel
theorem dX2_coming_15 : decode cX2_coming 15 = .ok (.dup, 1) := by decide +kernel
theorem dX2_coming_16 : decode cX2_coming 16 = .ok (.ldc 231, 2) := by decide +kernel
theorem dX2_coming_18 : decode cX2_coming 18 = .ok (.invokespecial 48, 3) := by decide +kernel
theorem dX2_coming_21 : decode cX2_coming 21 = .ok (.athrow, 1) := by decide +kernel
theorem dX2_coming_22 : decode cX2_coming 22 = .ok (.iload_n 2, 1) := by decide +kernel
theorem dX2_coming_23 : decode cX2_coming 23 = .ok (.ifCond .lt 8, 3) := by decide +kernel
theorem dX2_coming_26 : decode cX2_coming 26 = .ok (.iload_n 2, 1) := by decide +kernel
theorem dX2_coming_27 : decode cX2_coming 27 = .ok (.iconst 4, 1) := by decide +kernel
theorem dX2_coming_28 : decode cX2_coming 28 = .ok (.if_icmp .le 13, 3) := by decide +kernel
theorem dX2_coming_31 : decode cX2_coming 31 = .ok (.new 44, 3) := by decide +kernel
theorem dX2_coming_34 : decode cX2_coming 34 = .ok (.dup, 1) := by decide +kernel
theorem dX2_coming_35 : decode cX2_coming 35 = .ok (.ldc 157, 2) := by decide +kernel
theorem dX2_coming_37 : decode cX2_coming 37 = .ok (.invokespecial 48, 3) := by decide +kernel
theorem dX2_coming_40 : decode cX2_coming 40 = .ok (.athrow, 1) := by decide +kernel
theorem dX2_coming_41 : decode cX2_coming 41 = .ok (.aload_n 0, 1) := by decide +kernel
theorem dX2_coming_42 : decode cX2_coming 42 = .ok (.getfield 24, 3) := by decide +kernel
theorem dX2_coming_45 : decode cX2_coming 45 = .ok (.aload_n 0, 1) := by decide +kernel
theorem dX2_coming_46 : decode cX2_coming 46 = .ok (.getfield 20, 3) := by decide +kernel
theorem dX2_coming_49 : decode cX2_coming 49 = .ok (.invokevirtual 220, 3) := by decide +kernel
theorem dX2_coming_52 : decode cX2_coming 52 = .ok (.iconst 0, 1) := by decide +kernel
theorem dX2_coming_53 : decode cX2_coming 53 = .ok (.istore_n 3, 1) := by decide +kernel
theorem dX2_coming_54 : decode cX2_coming 54 = .ok (.iconst 0, 1) := by decide +kernel
theorem dX2_coming_55 : decode cX2_coming 55 = .ok (.istore 4, 2) := by decide +kernel
theorem dX2_coming_57 : decode cX2_coming 57 = .ok (.iload 4, 2) := by decide +kernel
theorem dX2_coming_59 : decode cX2_coming 59 = .ok (.iload_n 1, 1) := by decide +kernel
theorem dX2_coming_60 : decode cX2_coming 60 = .ok (.if_icmp .ge 28, 3) := by decide +kernel
theorem dX2_coming_63 : decode cX2_coming 63 = .ok (.aload_n 0, 1) := by decide +kernel
theorem dX2_coming_64 : decode cX2_coming 64 = .ok (.getfield 24, 3) := by decide +kernel
theorem dX2_coming_67 : decode cX2_coming 67 = .ok (.iconst 1, 1) := by decide +kernel
theorem dX2_coming_68 : decode cX2_coming 68 = .ok (.invokevirtual 120, 3) := by decide +kernel
theorem dX2_coming_71 : decode cX2_coming 71 = .ok (.pop, 1) := by decide +kernel
theorem dX2_coming_72 : decode cX2_coming 72 = .ok (.iload_n 3, 1) := by decide +kernel
theorem dX2_coming_73 : decode cX2_coming 73 = .ok (.aload_n 0, 1) := by decide +kernel
theorem dX2_coming_74 : decode cX2_coming 74 = .ok (.getfield 24, 3) := by decide +kernel
theorem dX2_coming_77 : decode cX2_coming 77 = .ok (.invokevirtual 233, 3) := by decide +kernel
theorem dX2_coming_80 : decode cX2_coming 80 = .ok (.iadd, 1) := by decide +kernel
theorem dX2_coming_81 : decode cX2_coming 81 = .ok (.istore_n 3, 1) := by decide +kernel
theorem dX2_coming_82 : decode cX2_coming 82 = .ok (.iinc 4 1, 3) := by decide +kernel
theorem dX2_coming_85 : decode cX2_coming 85 = .ok (.goto (-28), 3) := by decide +kernel
theorem dX2_coming_88 : decode cX2_coming 88 = .ok (.iload_n 2, 1) := by decide +kernel
theorem dX2_coming_89 : decode cX2_coming 89 = .ok (.tableswitch 96 0 3 #[31, 49, 67, 87], 31) := by decide +kernel
theorem dX2_coming_120 : decode cX2_coming 120 = .ok (.aload_n 0, 1) := by decide +kernel
theorem dX2_coming_121 : decode cX2_coming 121 = .ok (.getfield 24, 3) := by decide +kernel
theorem dX2_coming_124 : decode cX2_coming 124 = .ok (.iconst 4, 1) := by decide +kernel
theorem dX2_coming_125 : decode cX2_coming 125 = .ok (.invokevirtual 135, 3) := by decide +kernel
theorem dX2_coming_128 : decode cX2_coming 128 = .ok (.aload_n 0, 1) := by decide +kernel
theorem dX2_coming_129 : decode cX2_coming 129 = .ok (.getfield 20, 3) := by decide +kernel
theorem dX2_coming_132 : decode cX2_coming 132 = .ok (.iconst 4, 1) := by decide +kernel
theorem dX2_coming_133 : decode cX2_coming 133 = .ok (.invokevirtual 135, 3) := by decide +kernel
theorem dX2_coming_136 : decode cX2_coming 136 = .ok (.isub, 1) := by decide +kernel
theorem dX2_coming_137 : decode cX2_coming 137 = .ok (.ireturn, 1) := by decide +kernel
theorem dX2_coming_138 : decode cX2_coming 138 = .ok (.aload_n 0, 1) := by decide +kernel
theorem dX2_coming_139 : decode cX2_coming 139 = .ok (.getfield 24, 3) := by decide +kernel
theorem dX2_coming_142 : decode cX2_coming 142 = .ok (.iconst 5, 1) := by decide +kernel
theorem dX2_coming_143 : decode cX2_coming 143 = .ok (.invokevirtual 135, 3) := by decide +kernel
theorem dX2_coming_146 : decode cX2_coming 146 = .ok (.aload_n 0, 1) := by decide +kernel
theorem dX2_coming_147 : decode cX2_coming 147 = .ok (.getfield 20, 3) := by decide +kernel
theorem dX2_coming_150 : decode cX2_coming 150 = .ok (.iconst 5, 1) := by decide +kernel
theorem dX2_coming_151 : decode cX2_coming 151 = .ok (.invokevirtual 135, 3) := by decide +kernel
theorem dX2_coming_154 : decode cX2_coming 154 = .ok (.isub, 1) := by decide +kernel
theorem dX2_coming_155 : decode cX2_coming 155 = .ok (.ireturn, 1) := by decide +kernel
theorem dX2_coming_156 : decode cX2_coming 156 = .ok (.aload_n 0, 1) := by decide +kernel
theorem dX2_coming_157 : decode cX2_coming 157 = .ok (.getfield 24, 3) := by decide +kernel
theorem dX2_coming_160 : decode cX2_coming 160 = .ok (.bipush 6, 2) := by decide +kernel
theorem dX2_coming_162 : decode cX2_coming 162 = .ok (.invokevirtual 135, 3) := by decide +kernel
theorem dX2_coming_165 : decode cX2_coming 165 = .ok (.aload_n 0, 1) := by decide +kernel
theorem dX2_coming_166 : decode cX2_coming 166 = .ok (.getfield 20, 3) := by decide +kernel
theorem dX2_coming_169 : decode cX2_coming 169 = .ok (.bipush 6, 2) := by decide +kernel
theorem dX2_coming_171 : decode cX2_coming 171 = .ok (.invokevirtual 135, 3) := by decide +kernel
theorem dX2_coming_174 : decode cX2_coming 174 = .ok (.isub, 1) := by decide +kernel
theorem dX2_coming_175 : decode cX2_coming 175 = .ok (.ireturn, 1) := by decide +kernel
theorem dX2_coming_176 : decode cX2_coming 176 = .ok (.aload_n 0, 1) := by decide +kernel
theorem dX2_coming_177 : decode cX2_coming 177 = .ok (.getfield 24, 3) := by decide +kernel
theorem dX2_coming_180 : decode cX2_coming 180 = .ok (.iconst 2, 1) := by decide +kernel
theorem dX2_coming_181 : decode cX2_coming 181 = .ok (.invokevirtual 135, 3) := by decide +kernel
theorem dX2_coming_184 : decode cX2_coming 184 = .ok (.ireturn, 1) := by decide +kernel
theorem dX2_coming_185 : decode cX2_coming 185 = .ok (.iload_n 3, 1) := by decide +kernel
theorem dX2_coming_186 : decode cX2_coming 186 = .ok (.ireturn, 1) := by decide +kernel
theorem dX2_hitsIn_0 : decode cX2_hitsIn 0 = .ok (.aload_n 0, 1) := by decide +kernel
theorem dX2_hitsIn_1 : decode cX2_hitsIn 1 = .ok (.iload_n 1, 1) := by decide +kernel
theorem dX2_hitsIn_2 : decode cX2_hitsIn 2 = .ok (.invokevirtual 138, 3) := by decide +kernel
theorem dX2_hitsIn_5 : decode cX2_hitsIn 5 = .ok (.aload_n 0, 1) := by decide +kernel
theorem dX2_hitsIn_6 : decode cX2_hitsIn 6 = .ok (.getfield 24, 3) := by decide +kernel
theorem dX2_hitsIn_9 : decode cX2_hitsIn 9 = .ok (.aload_n 0, 1) := by decide +kernel
theorem dX2_hitsIn_10 : decode cX2_hitsIn 10 = .ok (.getfield 20, 3) := by decide +kernel
theorem dX2_hitsIn_13 : decode cX2_hitsIn 13 = .ok (.invokevirtual 220, 3) := by decide +kernel
theorem dX2_hitsIn_16 : decode cX2_hitsIn 16 = .ok (.aload_n 0, 1) := by decide +kernel
theorem dX2_hitsIn_17 : decode cX2_hitsIn 17 = .ok (.getfield 24, 3) := by decide +kernel
theorem dX2_hitsIn_20 : decode cX2_hitsIn 20 = .ok (.iload_n 1, 1) := by decide +kernel
theorem dX2_hitsIn_21 : decode cX2_hitsIn 21 = .ok (.iconst 1, 1) := by decide +kernel
theorem dX2_hitsIn_22 : decode cX2_hitsIn 22 = .ok (.invokevirtual 110, 3) := by decide +kernel
theorem dX2_hitsIn_25 : decode cX2_hitsIn 25 = .ok (.pop, 1) := by decide +kernel
theorem dX2_hitsIn_26 : decode cX2_hitsIn 26 = .ok (.aload_n 0, 1) := by decide +kernel
theorem dX2_hitsIn_27 : decode cX2_hitsIn 27 = .ok (.getfield 24, 3) := by decide +kernel
theorem dX2_hitsIn_30 : decode cX2_hitsIn 30 = .ok (.getfield 144, 3) := by decide +kernel
theorem dX2_hitsIn_33 : decode cX2_hitsIn 33 = .ok (.iload_n 1, 1) := by decide +kernel
theorem dX2_hitsIn_34 : decode cX2_hitsIn 34 = .ok (.aaload, 1) := by decide +kernel
theorem dX2_hitsIn_35 : decode cX2_hitsIn 35 = .ok (.astore_n 2, 1) := by decide +kernel
theorem dX2_hitsIn_36 : decode cX2_hitsIn 36 = .ok (.aload_n 2, 1) := by decide +kernel
theorem dX2_hitsIn_37 : decode cX2_hitsIn 37 = .ok (.getfield 236, 3) := by decide +kernel
theorem dX2_hitsIn_40 : decode cX2_hitsIn 40 = .ok (.istore_n 3, 1) := by decide +kernel
theorem dX2_hitsIn_41 : decode cX2_hitsIn 41 = .ok (.iconst 1, 1) := by decide +kernel
theorem dX2_hitsIn_42 : decode cX2_hitsIn 42 = .ok (.istore 4, 2) := by decide +kernel
theorem dX2_hitsIn_44 : decode cX2_hitsIn 44 = .ok (.iload 4, 2) := by decide +kernel
theorem dX2_hitsIn_46 : decode cX2_hitsIn 46 = .ok (.sipush 400, 3) := by decide +kernel
theorem dX2_hitsIn_49 : decode cX2_hitsIn 49 = .ok (.if_icmp .gt 31, 3) := by decide +kernel
theorem dX2_hitsIn_52 : decode cX2_hitsIn 52 = .ok (.aload_n 2, 1) := by decide +kernel
theorem dX2_hitsIn_53 : decode cX2_hitsIn 53 = .ok (.aload_n 0, 1) := by decide +kernel
theorem dX2_hitsIn_54 : decode cX2_hitsIn 54 = .ok (.getfield 24, 3) := by decide +kernel
theorem dX2_hitsIn_57 : decode cX2_hitsIn 57 = .ok (.getfield 168, 3) := by decide +kernel
theorem dX2_hitsIn_60 : decode cX2_hitsIn 60 = .ok (.invokevirtual 224, 3) := by decide +kernel
theorem dX2_hitsIn_63 : decode cX2_hitsIn 63 = .ok (.aload_n 2, 1) := by decide +kernel
theorem dX2_hitsIn_64 : decode cX2_hitsIn 64 = .ok (.getfield 236, 3) := by decide +kernel
theorem dX2_hitsIn_67 : decode cX2_hitsIn 67 = .ok (.iload_n 3, 1) := by decide +kernel
theorem dX2_hitsIn_68 : decode cX2_hitsIn 68 = .ok (.if_icmp .le 6, 3) := by decide +kernel
theorem dX2_hitsIn_71 : decode cX2_hitsIn 71 = .ok (.iload 4, 2) := by decide +kernel
theorem dX2_hitsIn_73 : decode cX2_hitsIn 73 = .ok (.ireturn, 1) := by decide +kernel
theorem dX2_hitsIn_74 : decode cX2_hitsIn 74 = .ok (.iinc 4 1, 3) := by decide +kernel
theorem dX2_hitsIn_77 : decode cX2_hitsIn 77 = .ok (.goto (-33), 3) := by decide +kernel
theorem dX2_hitsIn_80 : decode cX2_hitsIn 80 = .ok (.iconst (-1), 1) := by decide +kernel
theorem dX2_hitsIn_81 : decode cX2_hitsIn 81 = .ok (.ireturn, 1) := by decide +kernel
theorem dX2_copyThroughIn_0 : decode cX2_copyThroughIn 0 = .ok (.aload_n 0, 1) := by decide +kernel
theorem dX2_copyThroughIn_1 : decode cX2_copyThroughIn 1 = .ok (.getfield 24, 3) := by decide +kernel
theorem dX2_copyThroughIn_4 : decode cX2_copyThroughIn 4 = .ok (.getfield 144, 3) := by decide +kernel
theorem dX2_copyThroughIn_7 : decode cX2_copyThroughIn 7 = .ok (.iload_n 1, 1) := by decide +kernel
theorem dX2_copyThroughIn_8 : decode cX2_copyThroughIn 8 = .ok (.aaload, 1) := by decide +kernel
theorem dX2_copyThroughIn_9 : decode cX2_copyThroughIn 9 = .ok (.astore_n 3, 1) := by decide +kernel
theorem dX2_copyThroughIn_10 : decode cX2_copyThroughIn 10 = .ok (.aload_n 3, 1) := by decide +kernel
theorem dX2_copyThroughIn_11 : decode cX2_copyThroughIn 11 = .ok (.getfield 239, 3) := by decide +kernel
theorem dX2_copyThroughIn_14 : decode cX2_copyThroughIn 14 = .ok (.iload_n 2, 1) := by decide +kernel
theorem dX2_copyThroughIn_15 : decode cX2_copyThroughIn 15 = .ok (.iadd, 1) := by decide +kernel
theorem dX2_copyThroughIn_16 : decode cX2_copyThroughIn 16 = .ok (.istore 4, 2) := by decide +kernel
theorem dX2_copyThroughIn_18 : decode cX2_copyThroughIn 18 = .ok (.iconst 0, 1) := by decide +kernel
theorem dX2_copyThroughIn_19 : decode cX2_copyThroughIn 19 = .ok (.istore 5, 2) := by decide +kernel
theorem dX2_copyThroughIn_21 : decode cX2_copyThroughIn 21 = .ok (.iload 5, 2) := by decide +kernel
theorem dX2_copyThroughIn_23 : decode cX2_copyThroughIn 23 = .ok (.sipush 400, 3) := by decide +kernel
theorem dX2_copyThroughIn_26 : decode cX2_copyThroughIn 26 = .ok (.if_icmp .gt 37, 3) := by decide +kernel
theorem dX2_copyThroughIn_29 : decode cX2_copyThroughIn 29 = .ok (.aload_n 3, 1) := by decide +kernel
theorem dX2_copyThroughIn_30 : decode cX2_copyThroughIn 30 = .ok (.iload 4, 2) := by decide +kernel
theorem dX2_copyThroughIn_32 : decode cX2_copyThroughIn 32 = .ok (.aload_n 3, 1) := by decide +kernel
theorem dX2_copyThroughIn_33 : decode cX2_copyThroughIn 33 = .ok (.getfield 239, 3) := by decide +kernel
theorem dX2_copyThroughIn_36 : decode cX2_copyThroughIn 36 = .ok (.isub, 1) := by decide +kernel
theorem dX2_copyThroughIn_37 : decode cX2_copyThroughIn 37 = .ok (.invokevirtual 242, 3) := by decide +kernel
theorem dX2_copyThroughIn_40 : decode cX2_copyThroughIn 40 = .ok (.ifCond .eq 6, 3) := by decide +kernel
theorem dX2_copyThroughIn_43 : decode cX2_copyThroughIn 43 = .ok (.iload 5, 2) := by decide +kernel
theorem dX2_copyThroughIn_45 : decode cX2_copyThroughIn 45 = .ok (.ireturn, 1) := by decide +kernel
theorem dX2_copyThroughIn_46 : decode cX2_copyThroughIn 46 = .ok (.aload_n 3, 1) := by decide +kernel
theorem dX2_copyThroughIn_47 : decode cX2_copyThroughIn 47 = .ok (.aload_n 0, 1) := by decide +kernel
theorem dX2_copyThroughIn_48 : decode cX2_copyThroughIn 48 = .ok (.getfield 24, 3) := by decide +kernel
theorem dX2_copyThroughIn_51 : decode cX2_copyThroughIn 51 = .ok (.getfield 168, 3) := by decide +kernel
theorem dX2_copyThroughIn_54 : decode cX2_copyThroughIn 54 = .ok (.invokevirtual 224, 3) := by decide +kernel
theorem dX2_copyThroughIn_57 : decode cX2_copyThroughIn 57 = .ok (.iinc 5 1, 3) := by decide +kernel
theorem dX2_copyThroughIn_60 : decode cX2_copyThroughIn 60 = .ok (.goto (-39), 3) := by decide +kernel
theorem dX2_copyThroughIn_63 : decode cX2_copyThroughIn 63 = .ok (.iconst (-1), 1) := by decide +kernel
theorem dX2_copyThroughIn_64 : decode cX2_copyThroughIn 64 = .ok (.ireturn, 1) := by decide +kernel
theorem dX2_runScript_0 : decode cX2_runScript 0 = .ok (.iload_n 1, 1) := by decide +kernel
theorem dX2_runScript_1 : decode cX2_runScript 1 = .ok (.iconst 1, 1) := by decide +kernel
theorem dX2_runScript_2 : decode cX2_runScript 2 = .ok (.if_icmp .lt 8, 3) := by decide +kernel
theorem dX2_runScript_5 : decode cX2_runScript 5 = .ok (.iload_n 1, 1) := by decide +kernel
theorem dX2_runScript_6 : decode cX2_runScript 6 = .ok (.iconst 3, 1) := by decide +kernel
theorem dX2_runScript_7 : decode cX2_runScript 7 = .ok (.if_icmp .le 13, 3) := by decide +kernel
theorem dX2_runScript_10 : decode cX2_runScript 10 = .ok (.new 44, 3) := by decide +kernel
theorem dX2_runScript_13 : decode cX2_runScript 13 = .ok (.dup, 1) := by decide +kernel
theorem dX2_runScript_14 : decode cX2_runScript 14 = .ok (.ldc 245, 2) := by decide +kernel
theorem dX2_runScript_16 : decode cX2_runScript 16 = .ok (.invokespecial 48, 3) := by decide +kernel
theorem dX2_runScript_19 : decode cX2_runScript 19 = .ok (.athrow, 1) := by decide +kernel
theorem dX2_runScript_20 : decode cX2_runScript 20 = .ok (.lload_n 2, 1) := by decide +kernel
theorem dX2_runScript_21 : decode cX2_runScript 21 = .ok (.lconst 0, 1) := by decide +kernel
theorem dX2_runScript_22 : decode cX2_runScript 22 = .ok (.lcmp, 1) := by decide +kernel
theorem dX2_runScript_23 : decode cX2_runScript 23 = .ok (.ifCond .lt 13, 3) := by decide +kernel
theorem dX2_runScript_26 : decode cX2_runScript 26 = .ok (.lload_n 2, 1) := by decide +kernel
theorem dX2_runScript_27 : decode cX2_runScript 27 = .ok (.iload_n 1, 1) := by decide +kernel
theorem dX2_runScript_28 : decode cX2_runScript 28 = .ok (.invokestatic 247, 3) := by decide +kernel
theorem dX2_runScript_31 : decode cX2_runScript 31 = .ok (.lconst 0, 1) := by decide +kernel
theorem dX2_runScript_32 : decode cX2_runScript 32 = .ok (.lcmp, 1) := by decide +kernel
theorem dX2_runScript_33 : decode cX2_runScript 33 = .ok (.ifCond .eq 13, 3) := by decide +kernel
theorem dX2_runScript_36 : decode cX2_runScript 36 = .ok (.new 44, 3) := by decide +kernel
theorem dX2_runScript_39 : decode cX2_runScript 39 = .ok (.dup, 1) := by decide +kernel
theorem dX2_runScript_40 : decode cX2_runScript 40 = .ok (.ldc 251, 2) := by decide +kernel
theorem dX2_runScript_42 : decode cX2_runScript 42 = .ok (.invokespecial 48, 3) := by decide +kernel
theorem dX2_runScript_45 : decode cX2_runScript 45 = .ok (.athrow, 1) := by decide +kernel
theorem dX2_runScript_46 : decode cX2_runScript 46 = .ok (.aload_n 0, 1) := by decide +kernel
theorem dX2_runScript_47 : decode cX2_runScript 47 = .ok (.getfield 24, 3) := by decide +kernel
theorem dX2_runScript_50 : decode cX2_runScript 50 = .ok (.aload_n 0, 1) := by decide +kernel
theorem dX2_runScript_51 : decode cX2_runScript 51 = .ok (.getfield 20, 3) := by decide +kernel
theorem dX2_runScript_54 : decode cX2_runScript 54 = .ok (.invokevirtual 220, 3) := by decide +kernel
theorem dX2_runScript_57 : decode cX2_runScript 57 = .ok (.iconst 0, 1) := by decide +kernel
theorem dX2_runScript_58 : decode cX2_runScript 58 = .ok (.istore 4, 2) := by decide +kernel
theorem dX2_runScript_60 : decode cX2_runScript 60 = .ok (.iload 4, 2) := by decide +kernel
theorem dX2_runScript_62 : decode cX2_runScript 62 = .ok (.iload_n 1, 1) := by decide +kernel
theorem dX2_runScript_63 : decode cX2_runScript 63 = .ok (.if_icmp .ge 34, 3) := by decide +kernel
theorem dX2_runScript_66 : decode cX2_runScript 66 = .ok (.aload_n 0, 1) := by decide +kernel
theorem dX2_runScript_67 : decode cX2_runScript 67 = .ok (.lload_n 2, 1) := by decide +kernel
theorem dX2_runScript_68 : decode cX2_runScript 68 = .ok (.iload_n 1, 1) := by decide +kernel
theorem dX2_runScript_69 : decode cX2_runScript 69 = .ok (.iconst 1, 1) := by decide +kernel
theorem dX2_runScript_70 : decode cX2_runScript 70 = .ok (.isub, 1) := by decide +kernel
theorem dX2_runScript_71 : decode cX2_runScript 71 = .ok (.iload 4, 2) := by decide +kernel
theorem dX2_runScript_73 : decode cX2_runScript 73 = .ok (.isub, 1) := by decide +kernel
theorem dX2_runScript_74 : decode cX2_runScript 74 = .ok (.invokestatic 247, 3) := by decide +kernel
theorem dX2_runScript_77 : decode cX2_runScript 77 = .ok (.ldc2_w 253, 3) := by decide +kernel
theorem dX2_runScript_80 : decode cX2_runScript 80 = .ok (.lrem, 1) := by decide +kernel
theorem dX2_runScript_81 : decode cX2_runScript 81 = .ok (.l2i, 1) := by decide +kernel
theorem dX2_runScript_82 : decode cX2_runScript 82 = .ok (.invokevirtual 255, 3) := by decide +kernel
theorem dX2_runScript_85 : decode cX2_runScript 85 = .ok (.ifCond .ne 6, 3) := by decide +kernel
theorem dX2_runScript_88 : decode cX2_runScript 88 = .ok (.iload 4, 2) := by decide +kernel
theorem dX2_runScript_90 : decode cX2_runScript 90 = .ok (.ireturn, 1) := by decide +kernel
theorem dX2_runScript_91 : decode cX2_runScript 91 = .ok (.iinc 4 1, 3) := by decide +kernel
theorem dX2_runScript_94 : decode cX2_runScript 94 = .ok (.goto (-34), 3) := by decide +kernel
theorem dX2_runScript_97 : decode cX2_runScript 97 = .ok (.iconst (-1), 1) := by decide +kernel
theorem dX2_runScript_98 : decode cX2_runScript 98 = .ok (.ireturn, 1) := by decide +kernel
theorem dX2_simulate_0 : decode cX2_simulate 0 = .ok (.iload_n 3, 1) := by decide +kernel
theorem dX2_simulate_1 : decode cX2_simulate 1 = .ok (.iconst 1, 1) := by decide +kernel
theorem dX2_simulate_2 : decode cX2_simulate 2 = .ok (.if_icmp .lt 9, 3) := by decide +kernel
theorem dX2_simulate_5 : decode cX2_simulate 5 = .ok (.iload_n 3, 1) := by decide +kernel
theorem dX2_simulate_6 : decode cX2_simulate 6 = .ok (.bipush 60, 2) := by decide +kernel
theorem dX2_simulate_8 : decode cX2_simulate 8 = .ok (.if_icmp .le 14, 3) := by decide +kernel
theorem dX2_simulate_11 : decode cX2_simulate 11 = .ok (.new 44, 3) := by decide +kernel
theorem dX2_simulate_14 : decode cX2_simulate 14 = .ok (.dup, 1) := by decide +kernel
theorem dX2_simulate_15 : decode cX2_simulate 15 = .ok (.ldc_w 258, 3) := by decide +kernel
theorem dX2_simulate_18 : decode cX2_simulate 18 = .ok (.invokespecial 48, 3) := by decide +kernel
theorem dX2_simulate_21 : decode cX2_simulate 21 = .ok (.athrow, 1) := by decide +kernel
theorem dX2_simulate_22 : decode cX2_simulate 22 = .ok (.aload_n 0, 1) := by decide +kernel
theorem dX2_simulate_23 : decode cX2_simulate 23 = .ok (.getfield 24, 3) := by decide +kernel
theorem dX2_simulate_26 : decode cX2_simulate 26 = .ok (.aload_n 0, 1) := by decide +kernel
theorem dX2_simulate_27 : decode cX2_simulate 27 = .ok (.getfield 20, 3) := by decide +kernel
theorem dX2_simulate_30 : decode cX2_simulate 30 = .ok (.invokevirtual 220, 3) := by decide +kernel
theorem dX2_simulate_33 : decode cX2_simulate 33 = .ok (.lload_n 1, 1) := by decide +kernel
theorem dX2_simulate_34 : decode cX2_simulate 34 = .ok (.lstore 4, 2) := by decide +kernel
theorem dX2_simulate_36 : decode cX2_simulate 36 = .ok (.iconst 0, 1) := by decide +kernel
theorem dX2_simulate_37 : decode cX2_simulate 37 = .ok (.istore 6, 2) := by decide +kernel
theorem dX2_simulate_39 : decode cX2_simulate 39 = .ok (.iload 6, 2) := by decide +kernel
theorem dX2_simulate_41 : decode cX2_simulate 41 = .ok (.iload_n 3, 1) := by decide +kernel
theorem dX2_simulate_42 : decode cX2_simulate 42 = .ok (.if_icmp .ge 31, 3) := by decide +kernel
theorem dX2_simulate_45 : decode cX2_simulate 45 = .ok (.lload 4, 2) := by decide +kernel
theorem dX2_simulate_47 : decode cX2_simulate 47 = .ok (.ldc2_w 260, 3) := by decide +kernel
theorem dX2_simulate_50 : decode cX2_simulate 50 = .ok (.lmul, 1) := by decide +kernel
theorem dX2_simulate_51 : decode cX2_simulate 51 = .ok (.ldc2_w 262, 3) := by decide +kernel
theorem dX2_simulate_54 : decode cX2_simulate 54 = .ok (.ladd, 1) := by decide +kernel
theorem dX2_simulate_55 : decode cX2_simulate 55 = .ok (.lstore 4, 2) := by decide +kernel
theorem dX2_simulate_57 : decode cX2_simulate 57 = .ok (.aload_n 0, 1) := by decide +kernel
theorem dX2_simulate_58 : decode cX2_simulate 58 = .ok (.lload 4, 2) := by decide +kernel
theorem dX2_simulate_60 : decode cX2_simulate 60 = .ok (.bipush 33, 2) := by decide +kernel
theorem dX2_simulate_62 : decode cX2_simulate 62 = .ok (.lushr, 1) := by decide +kernel
theorem dX2_simulate_63 : decode cX2_simulate 63 = .ok (.l2i, 1) := by decide +kernel
theorem dX2_simulate_64 : decode cX2_simulate 64 = .ok (.invokevirtual 264, 3) := by decide +kernel
theorem dX2_simulate_67 : decode cX2_simulate 67 = .ok (.iinc 6 1, 3) := by decide +kernel
theorem dX2_simulate_70 : decode cX2_simulate 70 = .ok (.goto (-31), 3) := by decide +kernel
theorem dX2_simulate_73 : decode cX2_simulate 73 = .ok (.aload_n 0, 1) := by decide +kernel
theorem dX2_simulate_74 : decode cX2_simulate 74 = .ok (.getfield 24, 3) := by decide +kernel
theorem dX2_simulate_77 : decode cX2_simulate 77 = .ok (.bipush 6, 2) := by decide +kernel
theorem dX2_simulate_79 : decode cX2_simulate 79 = .ok (.invokevirtual 135, 3) := by decide +kernel
theorem dX2_simulate_82 : decode cX2_simulate 82 = .ok (.aload_n 0, 1) := by decide +kernel
theorem dX2_simulate_83 : decode cX2_simulate 83 = .ok (.getfield 20, 3) := by decide +kernel
theorem dX2_simulate_86 : decode cX2_simulate 86 = .ok (.bipush 6, 2) := by decide +kernel
theorem dX2_simulate_88 : decode cX2_simulate 88 = .ok (.invokevirtual 135, 3) := by decide +kernel
theorem dX2_simulate_91 : decode cX2_simulate 91 = .ok (.isub, 1) := by decide +kernel
theorem dX2_simulate_92 : decode cX2_simulate 92 = .ok (.istore 6, 2) := by decide +kernel
theorem dX2_simulate_94 : decode cX2_simulate 94 = .ok (.aload_n 0, 1) := by decide +kernel
theorem dX2_simulate_95 : decode cX2_simulate 95 = .ok (.getfield 24, 3) := by decide +kernel
theorem dX2_simulate_98 : decode cX2_simulate 98 = .ok (.iconst 5, 1) := by decide +kernel
theorem dX2_simulate_99 : decode cX2_simulate 99 = .ok (.invokevirtual 135, 3) := by decide +kernel
theorem dX2_simulate_102 : decode cX2_simulate 102 = .ok (.aload_n 0, 1) := by decide +kernel
theorem dX2_simulate_103 : decode cX2_simulate 103 = .ok (.getfield 20, 3) := by decide +kernel
theorem dX2_simulate_106 : decode cX2_simulate 106 = .ok (.iconst 5, 1) := by decide +kernel
theorem dX2_simulate_107 : decode cX2_simulate 107 = .ok (.invokevirtual 135, 3) := by decide +kernel
theorem dX2_simulate_110 : decode cX2_simulate 110 = .ok (.isub, 1) := by decide +kernel
theorem dX2_simulate_111 : decode cX2_simulate 111 = .ok (.istore 7, 2) := by decide +kernel
theorem dX2_simulate_113 : decode cX2_simulate 113 = .ok (.aload_n 0, 1) := by decide +kernel
theorem dX2_simulate_114 : decode cX2_simulate 114 = .ok (.getfield 24, 3) := by decide +kernel
theorem dX2_simulate_117 : decode cX2_simulate 117 = .ok (.iconst 3, 1) := by decide +kernel
theorem dX2_simulate_118 : decode cX2_simulate 118 = .ok (.invokevirtual 135, 3) := by decide +kernel
theorem dX2_simulate_121 : decode cX2_simulate 121 = .ok (.aload_n 0, 1) := by decide +kernel
theorem dX2_simulate_122 : decode cX2_simulate 122 = .ok (.getfield 20, 3) := by decide +kernel
theorem dX2_simulate_125 : decode cX2_simulate 125 = .ok (.iconst 3, 1) := by decide +kernel
theorem dX2_simulate_126 : decode cX2_simulate 126 = .ok (.invokevirtual 135, 3) := by decide +kernel
theorem dX2_simulate_129 : decode cX2_simulate 129 = .ok (.isub, 1) := by decide +kernel
theorem dX2_simulate_130 : decode cX2_simulate 130 = .ok (.istore 8, 2) := by decide +kernel
theorem dX2_simulate_132 : decode cX2_simulate 132 = .ok (.sipush 10000, 3) := by decide +kernel
theorem dX2_simulate_135 : decode cX2_simulate 135 = .ok (.iload 6, 2) := by decide +kernel
theorem dX2_simulate_137 : decode cX2_simulate 137 = .ok (.imul, 1) := by decide +kernel
theorem dX2_simulate_138 : decode cX2_simulate 138 = .ok (.bipush 100, 2) := by decide +kernel
theorem dX2_simulate_140 : decode cX2_simulate 140 = .ok (.iload 7, 2) := by decide +kernel
theorem dX2_simulate_142 : decode cX2_simulate 142 = .ok (.imul, 1) := by decide +kernel
theorem dX2_simulate_143 : decode cX2_simulate 143 = .ok (.iadd, 1) := by decide +kernel
theorem dX2_simulate_144 : decode cX2_simulate 144 = .ok (.iload 8, 2) := by decide +kernel
theorem dX2_simulate_146 : decode cX2_simulate 146 = .ok (.bipush 99, 2) := by decide +kernel
theorem dX2_simulate_148 : decode cX2_simulate 148 = .ok (.invokestatic 267, 3) := by decide +kernel
theorem dX2_simulate_151 : decode cX2_simulate 151 = .ok (.iadd, 1) := by decide +kernel
theorem dX2_simulate_152 : decode cX2_simulate 152 = .ok (.ireturn, 1) := by decide +kernel
theorem dX2_withoutGroups_0 : decode cX2_withoutGroups 0 = .ok (.lload_n 0, 1) := by decide +kernel
theorem dX2_withoutGroups_1 : decode cX2_withoutGroups 1 = .ok (.lstore_n 3, 1) := by decide +kernel
theorem dX2_withoutGroups_2 : decode cX2_withoutGroups 2 = .ok (.iconst 0, 1) := by decide +kernel
theorem dX2_withoutGroups_3 : decode cX2_withoutGroups 3 = .ok (.istore 5, 2) := by decide +kernel
theorem dX2_withoutGroups_5 : decode cX2_withoutGroups 5 = .ok (.iload 5, 2) := by decide +kernel
theorem dX2_withoutGroups_7 : decode cX2_withoutGroups 7 = .ok (.iload_n 2, 1) := by decide +kernel
theorem dX2_withoutGroups_8 : decode cX2_withoutGroups 8 = .ok (.if_icmp .ge 15, 3) := by decide +kernel
theorem dX2_withoutGroups_11 : decode cX2_withoutGroups 11 = .ok (.lload_n 3, 1) := by decide +kernel
theorem dX2_withoutGroups_12 : decode cX2_withoutGroups 12 = .ok (.ldc2_w 253, 3) := by decide +kernel
theorem dX2_withoutGroups_15 : decode cX2_withoutGroups 15 = .ok (.ldiv, 1) := by decide +kernel
theorem dX2_withoutGroups_16 : decode cX2_withoutGroups 16 = .ok (.lstore_n 3, 1) := by decide +kernel
theorem dX2_withoutGroups_17 : decode cX2_withoutGroups 17 = .ok (.iinc 5 1, 3) := by decide +kernel
theorem dX2_withoutGroups_20 : decode cX2_withoutGroups 20 = .ok (.goto (-15), 3) := by decide +kernel
theorem dX2_withoutGroups_23 : decode cX2_withoutGroups 23 = .ok (.lload_n 3, 1) := by decide +kernel
theorem dX2_withoutGroups_24 : decode cX2_withoutGroups 24 = .ok (.lreturn, 1) := by decide +kernel
theorem dX2_doGroup_0 : decode cX2_doGroup 0 = .ok (.iload_n 1, 1) := by decide +kernel
theorem dX2_doGroup_1 : decode cX2_doGroup 1 = .ok (.sipush 1000, 3) := by decide +kernel
theorem dX2_doGroup_4 : decode cX2_doGroup 4 = .ok (.idiv, 1) := by decide +kernel
theorem dX2_doGroup_5 : decode cX2_doGroup 5 = .ok (.bipush 10, 2) := by decide +kernel
theorem dX2_doGroup_7 : decode cX2_doGroup 7 = .ok (.irem, 1) := by decide +kernel
theorem dX2_doGroup_8 : decode cX2_doGroup 8 = .ok (.istore_n 2, 1) := by decide +kernel
theorem dX2_doGroup_9 : decode cX2_doGroup 9 = .ok (.iload_n 1, 1) := by decide +kernel
theorem dX2_doGroup_10 : decode cX2_doGroup 10 = .ok (.bipush 100, 2) := by decide +kernel
theorem dX2_doGroup_12 : decode cX2_doGroup 12 = .ok (.idiv, 1) := by decide +kernel
theorem dX2_doGroup_13 : decode cX2_doGroup 13 = .ok (.bipush 10, 2) := by decide +kernel
theorem dX2_doGroup_15 : decode cX2_doGroup 15 = .ok (.irem, 1) := by decide +kernel
theorem dX2_doGroup_16 : decode cX2_doGroup 16 = .ok (.istore_n 3, 1) := by decide +kernel
theorem dX2_doGroup_17 : decode cX2_doGroup 17 = .ok (.iload_n 1, 1) := by decide +kernel
theorem dX2_doGroup_18 : decode cX2_doGroup 18 = .ok (.bipush 10, 2) := by decide +kernel
theorem dX2_doGroup_20 : decode cX2_doGroup 20 = .ok (.idiv, 1) := by decide +kernel
theorem dX2_doGroup_21 : decode cX2_doGroup 21 = .ok (.bipush 10, 2) := by decide +kernel
theorem dX2_doGroup_23 : decode cX2_doGroup 23 = .ok (.irem, 1) := by decide +kernel
theorem dX2_doGroup_24 : decode cX2_doGroup 24 = .ok (.istore 4, 2) := by decide +kernel
theorem dX2_doGroup_26 : decode cX2_doGroup 26 = .ok (.iload_n 1, 1) := by decide +kernel
theorem dX2_doGroup_27 : decode cX2_doGroup 27 = .ok (.bipush 10, 2) := by decide +kernel
theorem dX2_doGroup_29 : decode cX2_doGroup 29 = .ok (.irem, 1) := by decide +kernel
theorem dX2_doGroup_30 : decode cX2_doGroup 30 = .ok (.istore 5, 2) := by decide +kernel
theorem dX2_doGroup_32 : decode cX2_doGroup 32 = .ok (.iload_n 1, 1) := by decide +kernel
theorem dX2_doGroup_33 : decode cX2_doGroup 33 = .ok (.sipush 10000, 3) := by decide +kernel
theorem dX2_doGroup_36 : decode cX2_doGroup 36 = .ok (.idiv, 1) := by decide +kernel
theorem dX2_doGroup_37 : decode cX2_doGroup 37 = .ok (.tableswitch 405 1 9 #[51, 109, 141, 183, 214, 243, 286, 329, 362], 51) := by decide +kernel
theorem dX2_doGroup_88 : decode cX2_doGroup 88 = .ok (.iload 5, 2) := by decide +kernel
theorem dX2_doGroup_90 : decode cX2_doGroup 90 = .ok (.iconst 3, 1) := by decide +kernel
theorem dX2_doGroup_91 : decode cX2_doGroup 91 = .ok (.if_icmp .gt 53, 3) := by decide +kernel
theorem dX2_doGroup_94 : decode cX2_doGroup 94 = .ok (.aload_n 0, 1) := by decide +kernel
theorem dX2_doGroup_95 : decode cX2_doGroup 95 = .ok (.getfield 24, 3) := by decide +kernel
theorem dX2_doGroup_98 : decode cX2_doGroup 98 = .ok (.iload_n 2, 1) := by decide +kernel
theorem dX2_doGroup_99 : decode cX2_doGroup 99 = .ok (.bipush 10, 2) := by decide +kernel
theorem dX2_doGroup_101 : decode cX2_doGroup 101 = .ok (.iload_n 3, 1) := by decide +kernel
theorem dX2_doGroup_102 : decode cX2_doGroup 102 = .ok (.imul, 1) := by decide +kernel
theorem dX2_doGroup_103 : decode cX2_doGroup 103 = .ok (.iload 4, 2) := by decide +kernel
theorem dX2_doGroup_105 : decode cX2_doGroup 105 = .ok (.iadd, 1) := by decide +kernel
theorem dX2_doGroup_106 : decode cX2_doGroup 106 = .ok (.iload 5, 2) := by decide +kernel
theorem dX2_doGroup_108 : decode cX2_doGroup 108 = .ok (.iconst 1, 1) := by decide +kernel
theorem dX2_doGroup_109 : decode cX2_doGroup 109 = .ok (.if_icmp .eq 9, 3) := by decide +kernel
theorem dX2_doGroup_112 : decode cX2_doGroup 112 = .ok (.iload 5, 2) := by decide +kernel
theorem dX2_doGroup_114 : decode cX2_doGroup 114 = .ok (.iconst 3, 1) := by decide +kernel
theorem dX2_doGroup_115 : decode cX2_doGroup 115 = .ok (.if_icmp .ne 7, 3) := by decide +kernel
theorem dX2_doGroup_118 : decode cX2_doGroup 118 = .ok (.iconst 1, 1) := by decide +kernel
theorem dX2_doGroup_119 : decode cX2_doGroup 119 = .ok (.goto 4, 3) := by decide +kernel
theorem dX2_doGroup_122 : decode cX2_doGroup 122 = .ok (.iconst 0, 1) := by decide +kernel
theorem dX2_doGroup_123 : decode cX2_doGroup 123 = .ok (.iload 5, 2) := by decide +kernel
theorem dX2_doGroup_125 : decode cX2_doGroup 125 = .ok (.iconst 2, 1) := by decide +kernel
theorem dX2_doGroup_126 : decode cX2_doGroup 126 = .ok (.if_icmp .lt 7, 3) := by decide +kernel
theorem dX2_doGroup_129 : decode cX2_doGroup 129 = .ok (.iconst 1, 1) := by decide +kernel
theorem dX2_doGroup_130 : decode cX2_doGroup 130 = .ok (.goto 4, 3) := by decide +kernel
theorem dX2_doGroup_133 : decode cX2_doGroup 133 = .ok (.iconst 0, 1) := by decide +kernel
theorem dX2_doGroup_134 : decode cX2_doGroup 134 = .ok (.invokevirtual 123, 3) := by decide +kernel
theorem dX2_doGroup_137 : decode cX2_doGroup 137 = .ok (.ifCond .eq 7, 3) := by decide +kernel
theorem dX2_doGroup_140 : decode cX2_doGroup 140 = .ok (.iconst 1, 1) := by decide +kernel
theorem dX2_doGroup_141 : decode cX2_doGroup 141 = .ok (.goto 4, 3) := by decide +kernel
theorem dX2_doGroup_144 : decode cX2_doGroup 144 = .ok (.iconst 0, 1) := by decide +kernel
theorem dX2_doGroup_145 : decode cX2_doGroup 145 = .ok (.ireturn, 1) := by decide +kernel
theorem dX2_doGroup_146 : decode cX2_doGroup 146 = .ok (.iload_n 2, 1) := by decide +kernel
theorem dX2_doGroup_147 : decode cX2_doGroup 147 = .ok (.ifCond .ne 29, 3) := by decide +kernel
theorem dX2_doGroup_150 : decode cX2_doGroup 150 = .ok (.iload_n 3, 1) := by decide +kernel
theorem dX2_doGroup_151 : decode cX2_doGroup 151 = .ok (.ifCond .ne 25, 3) := by decide +kernel
theorem dX2_doGroup_154 : decode cX2_doGroup 154 = .ok (.aload_n 0, 1) := by decide +kernel
theorem dX2_doGroup_155 : decode cX2_doGroup 155 = .ok (.getfield 24, 3) := by decide +kernel
theorem dX2_doGroup_158 : decode cX2_doGroup 158 = .ok (.bipush 10, 2) := by decide +kernel
theorem dX2_doGroup_160 : decode cX2_doGroup 160 = .ok (.iload 4, 2) := by decide +kernel
theorem dX2_doGroup_162 : decode cX2_doGroup 162 = .ok (.imul, 1) := by decide +kernel
theorem dX2_doGroup_163 : decode cX2_doGroup 163 = .ok (.iload 5, 2) := by decide +kernel
theorem dX2_doGroup_165 : decode cX2_doGroup 165 = .ok (.iadd, 1) := by decide +kernel
theorem dX2_doGroup_166 : decode cX2_doGroup 166 = .ok (.invokevirtual 120, 3) := by decide +kernel
theorem dX2_doGroup_169 : decode cX2_doGroup 169 = .ok (.ifCond .eq 7, 3) := by decide +kernel
theorem dX2_doGroup_172 : decode cX2_doGroup 172 = .ok (.iconst 1, 1) := by decide +kernel
theorem dX2_doGroup_173 : decode cX2_doGroup 173 = .ok (.goto 4, 3) := by decide +kernel
theorem dX2_doGroup_176 : decode cX2_doGroup 176 = .ok (.iconst 0, 1) := by decide +kernel
theorem dX2_doGroup_177 : decode cX2_doGroup 177 = .ok (.ireturn, 1) := by decide +kernel
theorem dX2_doGroup_178 : decode cX2_doGroup 178 = .ok (.iload_n 3, 1) := by decide +kernel
theorem dX2_doGroup_179 : decode cX2_doGroup 179 = .ok (.iconst 1, 1) := by decide +kernel
theorem dX2_doGroup_180 : decode cX2_doGroup 180 = .ok (.if_icmp .gt 38, 3) := by decide +kernel
theorem dX2_doGroup_183 : decode cX2_doGroup 183 = .ok (.iload 4, 2) := by decide +kernel
theorem dX2_doGroup_185 : decode cX2_doGroup 185 = .ok (.ifCond .ne 33, 3) := by decide +kernel
theorem dX2_doGroup_188 : decode cX2_doGroup 188 = .ok (.iload 5, 2) := by decide +kernel
theorem dX2_doGroup_190 : decode cX2_doGroup 190 = .ok (.ifCond .ne 28, 3) := by decide +kernel
theorem dX2_doGroup_193 : decode cX2_doGroup 193 = .ok (.aload_n 0, 1) := by decide +kernel
theorem dX2_doGroup_194 : decode cX2_doGroup 194 = .ok (.getfield 24, 3) := by decide +kernel
theorem dX2_doGroup_197 : decode cX2_doGroup 197 = .ok (.iload_n 2, 1) := by decide +kernel
theorem dX2_doGroup_198 : decode cX2_doGroup 198 = .ok (.iload_n 3, 1) := by decide +kernel
theorem dX2_doGroup_199 : decode cX2_doGroup 199 = .ok (.iconst 1, 1) := by decide +kernel
theorem dX2_doGroup_200 : decode cX2_doGroup 200 = .ok (.if_icmp .ne 7, 3) := by decide +kernel
theorem dX2_doGroup_203 : decode cX2_doGroup 203 = .ok (.iconst 1, 1) := by decide +kernel
theorem dX2_doGroup_204 : decode cX2_doGroup 204 = .ok (.goto 4, 3) := by decide +kernel
theorem dX2_doGroup_207 : decode cX2_doGroup 207 = .ok (.iconst 0, 1) := by decide +kernel
theorem dX2_doGroup_208 : decode cX2_doGroup 208 = .ok (.invokevirtual 110, 3) := by decide +kernel
theorem dX2_doGroup_211 : decode cX2_doGroup 211 = .ok (.ifCond .eq 7, 3) := by decide +kernel
theorem dX2_doGroup_214 : decode cX2_doGroup 214 = .ok (.iconst 1, 1) := by decide +kernel
theorem dX2_doGroup_215 : decode cX2_doGroup 215 = .ok (.goto 4, 3) := by decide +kernel
theorem dX2_doGroup_218 : decode cX2_doGroup 218 = .ok (.iconst 0, 1) := by decide +kernel
theorem dX2_doGroup_219 : decode cX2_doGroup 219 = .ok (.ireturn, 1) := by decide +kernel
theorem dX2_doGroup_220 : decode cX2_doGroup 220 = .ok (.iload_n 3, 1) := by decide +kernel
theorem dX2_doGroup_221 : decode cX2_doGroup 221 = .ok (.ifCond .ne 28, 3) := by decide +kernel
theorem dX2_doGroup_224 : decode cX2_doGroup 224 = .ok (.iload 4, 2) := by decide +kernel
theorem dX2_doGroup_226 : decode cX2_doGroup 226 = .ok (.ifCond .ne 23, 3) := by decide +kernel
theorem dX2_doGroup_229 : decode cX2_doGroup 229 = .ok (.iload 5, 2) := by decide +kernel
theorem dX2_doGroup_231 : decode cX2_doGroup 231 = .ok (.ifCond .ne 18, 3) := by decide +kernel
theorem dX2_doGroup_234 : decode cX2_doGroup 234 = .ok (.aload_n 0, 1) := by decide +kernel
theorem dX2_doGroup_235 : decode cX2_doGroup 235 = .ok (.getfield 24, 3) := by decide +kernel
theorem dX2_doGroup_238 : decode cX2_doGroup 238 = .ok (.iload_n 2, 1) := by decide +kernel
theorem dX2_doGroup_239 : decode cX2_doGroup 239 = .ok (.invokevirtual 114, 3) := by decide +kernel
theorem dX2_doGroup_242 : decode cX2_doGroup 242 = .ok (.ifCond .eq 7, 3) := by decide +kernel
theorem dX2_doGroup_245 : decode cX2_doGroup 245 = .ok (.iconst 1, 1) := by decide +kernel
theorem dX2_doGroup_246 : decode cX2_doGroup 246 = .ok (.goto 4, 3) := by decide +kernel
theorem dX2_doGroup_249 : decode cX2_doGroup 249 = .ok (.iconst 0, 1) := by decide +kernel
theorem dX2_doGroup_250 : decode cX2_doGroup 250 = .ok (.ireturn, 1) := by decide +kernel
theorem dX2_doGroup_251 : decode cX2_doGroup 251 = .ok (.iload 5, 2) := by decide +kernel
theorem dX2_doGroup_253 : decode cX2_doGroup 253 = .ok (.ifCond .ne 25, 3) := by decide +kernel
theorem dX2_doGroup_256 : decode cX2_doGroup 256 = .ok (.aload_n 0, 1) := by decide +kernel
theorem dX2_doGroup_257 : decode cX2_doGroup 257 = .ok (.getfield 24, 3) := by decide +kernel
theorem dX2_doGroup_260 : decode cX2_doGroup 260 = .ok (.iload_n 2, 1) := by decide +kernel
theorem dX2_doGroup_261 : decode cX2_doGroup 261 = .ok (.bipush 10, 2) := by decide +kernel
theorem dX2_doGroup_263 : decode cX2_doGroup 263 = .ok (.iload_n 3, 1) := by decide +kernel
theorem dX2_doGroup_264 : decode cX2_doGroup 264 = .ok (.imul, 1) := by decide +kernel
theorem dX2_doGroup_265 : decode cX2_doGroup 265 = .ok (.iload 4, 2) := by decide +kernel
theorem dX2_doGroup_267 : decode cX2_doGroup 267 = .ok (.iadd, 1) := by decide +kernel
theorem dX2_doGroup_268 : decode cX2_doGroup 268 = .ok (.invokevirtual 215, 3) := by decide +kernel
theorem dX2_doGroup_271 : decode cX2_doGroup 271 = .ok (.ifCond .eq 7, 3) := by decide +kernel
theorem dX2_doGroup_274 : decode cX2_doGroup 274 = .ok (.iconst 1, 1) := by decide +kernel
theorem dX2_doGroup_275 : decode cX2_doGroup 275 = .ok (.goto 4, 3) := by decide +kernel
theorem dX2_doGroup_278 : decode cX2_doGroup 278 = .ok (.iconst 0, 1) := by decide +kernel
theorem dX2_doGroup_279 : decode cX2_doGroup 279 = .ok (.ireturn, 1) := by decide +kernel
theorem dX2_doGroup_280 : decode cX2_doGroup 280 = .ok (.iload 4, 2) := by decide +kernel
theorem dX2_doGroup_282 : decode cX2_doGroup 282 = .ok (.ifCond .ne 39, 3) := by decide +kernel
theorem dX2_doGroup_285 : decode cX2_doGroup 285 = .ok (.iload 5, 2) := by decide +kernel
theorem dX2_doGroup_287 : decode cX2_doGroup 287 = .ok (.ifCond .ne 34, 3) := by decide +kernel
theorem dX2_doGroup_290 : decode cX2_doGroup 290 = .ok (.aload_n 0, 1) := by decide +kernel
theorem dX2_doGroup_291 : decode cX2_doGroup 291 = .ok (.getfield 24, 3) := by decide +kernel
theorem dX2_doGroup_294 : decode cX2_doGroup 294 = .ok (.iload_n 2, 1) := by decide +kernel
theorem dX2_doGroup_295 : decode cX2_doGroup 295 = .ok (.invokevirtual 172, 3) := by decide +kernel
theorem dX2_doGroup_298 : decode cX2_doGroup 298 = .ok (.ifCond .eq 23, 3) := by decide +kernel
theorem dX2_doGroup_301 : decode cX2_doGroup 301 = .ok (.aload_n 0, 1) := by decide +kernel
theorem dX2_doGroup_302 : decode cX2_doGroup 302 = .ok (.getfield 24, 3) := by decide +kernel
theorem dX2_doGroup_305 : decode cX2_doGroup 305 = .ok (.getfield 144, 3) := by decide +kernel
theorem dX2_doGroup_308 : decode cX2_doGroup 308 = .ok (.iload_n 2, 1) := by decide +kernel
theorem dX2_doGroup_309 : decode cX2_doGroup 309 = .ok (.aaload, 1) := by decide +kernel
theorem dX2_doGroup_310 : decode cX2_doGroup 310 = .ok (.getfield 205, 3) := by decide +kernel
theorem dX2_doGroup_313 : decode cX2_doGroup 313 = .ok (.iload_n 3, 1) := by decide +kernel
theorem dX2_doGroup_314 : decode cX2_doGroup 314 = .ok (.if_icmp .ne 7, 3) := by decide +kernel
theorem dX2_doGroup_317 : decode cX2_doGroup 317 = .ok (.iconst 1, 1) := by decide +kernel
theorem dX2_doGroup_318 : decode cX2_doGroup 318 = .ok (.goto 4, 3) := by decide +kernel
theorem dX2_doGroup_321 : decode cX2_doGroup 321 = .ok (.iconst 0, 1) := by decide +kernel
theorem dX2_doGroup_322 : decode cX2_doGroup 322 = .ok (.ireturn, 1) := by decide +kernel
theorem dX2_doGroup_323 : decode cX2_doGroup 323 = .ok (.iload_n 3, 1) := by decide +kernel
theorem dX2_doGroup_324 : decode cX2_doGroup 324 = .ok (.ifCond .ne 40, 3) := by decide +kernel
theorem dX2_doGroup_327 : decode cX2_doGroup 327 = .ok (.iload 4, 2) := by decide +kernel
theorem dX2_doGroup_329 : decode cX2_doGroup 329 = .ok (.ifCond .ne 35, 3) := by decide +kernel
theorem dX2_doGroup_332 : decode cX2_doGroup 332 = .ok (.aload_n 0, 1) := by decide +kernel
theorem dX2_doGroup_333 : decode cX2_doGroup 333 = .ok (.getfield 24, 3) := by decide +kernel
theorem dX2_doGroup_336 : decode cX2_doGroup 336 = .ok (.iload_n 2, 1) := by decide +kernel
theorem dX2_doGroup_337 : decode cX2_doGroup 337 = .ok (.invokevirtual 172, 3) := by decide +kernel
theorem dX2_doGroup_340 : decode cX2_doGroup 340 = .ok (.ifCond .eq 24, 3) := by decide +kernel
theorem dX2_doGroup_343 : decode cX2_doGroup 343 = .ok (.aload_n 0, 1) := by decide +kernel
theorem dX2_doGroup_344 : decode cX2_doGroup 344 = .ok (.getfield 24, 3) := by decide +kernel
theorem dX2_doGroup_347 : decode cX2_doGroup 347 = .ok (.getfield 144, 3) := by decide +kernel
theorem dX2_doGroup_350 : decode cX2_doGroup 350 = .ok (.iload_n 2, 1) := by decide +kernel
theorem dX2_doGroup_351 : decode cX2_doGroup 351 = .ok (.aaload, 1) := by decide +kernel
theorem dX2_doGroup_352 : decode cX2_doGroup 352 = .ok (.getfield 195, 3) := by decide +kernel
theorem dX2_doGroup_355 : decode cX2_doGroup 355 = .ok (.iload 5, 2) := by decide +kernel
theorem dX2_doGroup_357 : decode cX2_doGroup 357 = .ok (.if_icmp .gt 7, 3) := by decide +kernel
theorem dX2_doGroup_360 : decode cX2_doGroup 360 = .ok (.iconst 1, 1) := by decide +kernel
theorem dX2_doGroup_361 : decode cX2_doGroup 361 = .ok (.goto 4, 3) := by decide +kernel
theorem dX2_doGroup_364 : decode cX2_doGroup 364 = .ok (.iconst 0, 1) := by decide +kernel
theorem dX2_doGroup_365 : decode cX2_doGroup 365 = .ok (.ireturn, 1) := by decide +kernel
theorem dX2_doGroup_366 : decode cX2_doGroup 366 = .ok (.iload_n 2, 1) := by decide +kernel
theorem dX2_doGroup_367 : decode cX2_doGroup 367 = .ok (.ifCond .ne 30, 3) := by decide +kernel
theorem dX2_doGroup_370 : decode cX2_doGroup 370 = .ok (.iload_n 3, 1) := by decide +kernel
theorem dX2_doGroup_371 : decode cX2_doGroup 371 = .ok (.ifCond .ne 26, 3) := by decide +kernel
theorem dX2_doGroup_374 : decode cX2_doGroup 374 = .ok (.aload_n 0, 1) := by decide +kernel
theorem dX2_doGroup_375 : decode cX2_doGroup 375 = .ok (.getfield 24, 3) := by decide +kernel
theorem dX2_doGroup_378 : decode cX2_doGroup 378 = .ok (.iconst 5, 1) := by decide +kernel
theorem dX2_doGroup_379 : decode cX2_doGroup 379 = .ok (.invokevirtual 135, 3) := by decide +kernel
theorem dX2_doGroup_382 : decode cX2_doGroup 382 = .ok (.bipush 10, 2) := by decide +kernel
theorem dX2_doGroup_384 : decode cX2_doGroup 384 = .ok (.iload 4, 2) := by decide +kernel
theorem dX2_doGroup_386 : decode cX2_doGroup 386 = .ok (.imul, 1) := by decide +kernel
theorem dX2_doGroup_387 : decode cX2_doGroup 387 = .ok (.iload 5, 2) := by decide +kernel
theorem dX2_doGroup_389 : decode cX2_doGroup 389 = .ok (.iadd, 1) := by decide +kernel
theorem dX2_doGroup_390 : decode cX2_doGroup 390 = .ok (.if_icmp .gt 7, 3) := by decide +kernel
theorem dX2_doGroup_393 : decode cX2_doGroup 393 = .ok (.iconst 1, 1) := by decide +kernel
theorem dX2_doGroup_394 : decode cX2_doGroup 394 = .ok (.goto 4, 3) := by decide +kernel
theorem dX2_doGroup_397 : decode cX2_doGroup 397 = .ok (.iconst 0, 1) := by decide +kernel
theorem dX2_doGroup_398 : decode cX2_doGroup 398 = .ok (.ireturn, 1) := by decide +kernel
theorem dX2_doGroup_399 : decode cX2_doGroup 399 = .ok (.iload_n 3, 1) := by decide +kernel
theorem dX2_doGroup_400 : decode cX2_doGroup 400 = .ok (.ifCond .ne 40, 3) := by decide +kernel
theorem dX2_doGroup_403 : decode cX2_doGroup 403 = .ok (.iload 4, 2) := by decide +kernel
theorem dX2_doGroup_405 : decode cX2_doGroup 405 = .ok (.ifCond .ne 35, 3) := by decide +kernel
theorem dX2_doGroup_408 : decode cX2_doGroup 408 = .ok (.aload_n 0, 1) := by decide +kernel
theorem dX2_doGroup_409 : decode cX2_doGroup 409 = .ok (.getfield 24, 3) := by decide +kernel
theorem dX2_doGroup_412 : decode cX2_doGroup 412 = .ok (.iload_n 2, 1) := by decide +kernel
theorem dX2_doGroup_413 : decode cX2_doGroup 413 = .ok (.invokevirtual 172, 3) := by decide +kernel
theorem dX2_doGroup_416 : decode cX2_doGroup 416 = .ok (.ifCond .eq 24, 3) := by decide +kernel
theorem dX2_doGroup_419 : decode cX2_doGroup 419 = .ok (.aload_n 0, 1) := by decide +kernel
theorem dX2_doGroup_420 : decode cX2_doGroup 420 = .ok (.getfield 24, 3) := by decide +kernel
theorem dX2_doGroup_423 : decode cX2_doGroup 423 = .ok (.getfield 144, 3) := by decide +kernel
theorem dX2_doGroup_426 : decode cX2_doGroup 426 = .ok (.iload_n 2, 1) := by decide +kernel
theorem dX2_doGroup_427 : decode cX2_doGroup 427 = .ok (.aaload, 1) := by decide +kernel
theorem dX2_doGroup_428 : decode cX2_doGroup 428 = .ok (.invokevirtual 163, 3) := by decide +kernel
theorem dX2_doGroup_431 : decode cX2_doGroup 431 = .ok (.iload 5, 2) := by decide +kernel
theorem dX2_doGroup_433 : decode cX2_doGroup 433 = .ok (.if_icmp .ne 7, 3) := by decide +kernel
theorem dX2_doGroup_436 : decode cX2_doGroup 436 = .ok (.iconst 1, 1) := by decide +kernel
theorem dX2_doGroup_437 : decode cX2_doGroup 437 = .ok (.goto 4, 3) := by decide +kernel
theorem dX2_doGroup_440 : decode cX2_doGroup 440 = .ok (.iconst 0, 1) := by decide +kernel
theorem dX2_doGroup_441 : decode cX2_doGroup 441 = .ok (.ireturn, 1) := by decide +kernel
theorem dX2_doGroup_442 : decode cX2_doGroup 442 = .ok (.iconst 0, 1) := by decide +kernel
theorem dX2_doGroup_443 : decode cX2_doGroup 443 = .ok (.ireturn, 1) := by decide +kernel
theorem dX2_doTurn_0 : decode cX2_doTurn 0 = .ok (.iload_n 1, 1) := by decide +kernel
theorem dX2_doTurn_1 : decode cX2_doTurn 1 = .ok (.bipush 8, 2) := by decide +kernel
theorem dX2_doTurn_3 : decode cX2_doTurn 3 = .ok (.idiv, 1) := by decide +kernel
theorem dX2_doTurn_4 : decode cX2_doTurn 4 = .ok (.istore_n 2, 1) := by decide +kernel
theorem dX2_doTurn_5 : decode cX2_doTurn 5 = .ok (.iload_n 1, 1) := by decide +kernel
theorem dX2_doTurn_6 : decode cX2_doTurn 6 = .ok (.bipush 8, 2) := by decide +kernel
theorem dX2_doTurn_8 : decode cX2_doTurn 8 = .ok (.irem, 1) := by decide +kernel
theorem dX2_doTurn_9 : decode cX2_doTurn 9 = .ok (.tableswitch 128 0 4 #[35, 35, 35, 87, 114], 35) := by decide +kernel
theorem dX2_doTurn_44 : decode cX2_doTurn 44 = .ok (.aload_n 0, 1) := by decide +kernel
theorem dX2_doTurn_45 : decode cX2_doTurn 45 = .ok (.getfield 24, 3) := by decide +kernel
theorem dX2_doTurn_48 : decode cX2_doTurn 48 = .ok (.iload_n 2, 1) := by decide +kernel
theorem dX2_doTurn_49 : decode cX2_doTurn 49 = .ok (.iconst 3, 1) := by decide +kernel
theorem dX2_doTurn_50 : decode cX2_doTurn 50 = .ok (.irem, 1) := by decide +kernel
theorem dX2_doTurn_51 : decode cX2_doTurn 51 = .ok (.iconst 2, 1) := by decide +kernel
theorem dX2_doTurn_52 : decode cX2_doTurn 52 = .ok (.iload_n 2, 1) := by decide +kernel
theorem dX2_doTurn_53 : decode cX2_doTurn 53 = .ok (.iconst 4, 1) := by decide +kernel
theorem dX2_doTurn_54 : decode cX2_doTurn 54 = .ok (.idiv, 1) := by decide +kernel
theorem dX2_doTurn_55 : decode cX2_doTurn 55 = .ok (.bipush 11, 2) := by decide +kernel
theorem dX2_doTurn_57 : decode cX2_doTurn 57 = .ok (.irem, 1) := by decide +kernel
theorem dX2_doTurn_58 : decode cX2_doTurn 58 = .ok (.iadd, 1) := by decide +kernel
theorem dX2_doTurn_59 : decode cX2_doTurn 59 = .ok (.iload_n 2, 1) := by decide +kernel
theorem dX2_doTurn_60 : decode cX2_doTurn 60 = .ok (.bipush 64, 2) := by decide +kernel
theorem dX2_doTurn_62 : decode cX2_doTurn 62 = .ok (.idiv, 1) := by decide +kernel
theorem dX2_doTurn_63 : decode cX2_doTurn 63 = .ok (.bipush 8, 2) := by decide +kernel
theorem dX2_doTurn_65 : decode cX2_doTurn 65 = .ok (.irem, 1) := by decide +kernel
theorem dX2_doTurn_66 : decode cX2_doTurn 66 = .ok (.ifCond .ne 7, 3) := by decide +kernel
theorem dX2_doTurn_69 : decode cX2_doTurn 69 = .ok (.iconst 1, 1) := by decide +kernel
theorem dX2_doTurn_70 : decode cX2_doTurn 70 = .ok (.goto 4, 3) := by decide +kernel
theorem dX2_doTurn_73 : decode cX2_doTurn 73 = .ok (.iconst 0, 1) := by decide +kernel
theorem dX2_doTurn_74 : decode cX2_doTurn 74 = .ok (.iload_n 2, 1) := by decide +kernel
theorem dX2_doTurn_75 : decode cX2_doTurn 75 = .ok (.sipush 512, 3) := by decide +kernel
theorem dX2_doTurn_78 : decode cX2_doTurn 78 = .ok (.idiv, 1) := by decide +kernel
theorem dX2_doTurn_79 : decode cX2_doTurn 79 = .ok (.iconst 4, 1) := by decide +kernel
theorem dX2_doTurn_80 : decode cX2_doTurn 80 = .ok (.irem, 1) := by decide +kernel
theorem dX2_doTurn_81 : decode cX2_doTurn 81 = .ok (.ifCond .ne 7, 3) := by decide +kernel
theorem dX2_doTurn_84 : decode cX2_doTurn 84 = .ok (.iconst 1, 1) := by decide +kernel
theorem dX2_doTurn_85 : decode cX2_doTurn 85 = .ok (.goto 4, 3) := by decide +kernel
theorem dX2_doTurn_88 : decode cX2_doTurn 88 = .ok (.iconst 0, 1) := by decide +kernel
theorem dX2_doTurn_89 : decode cX2_doTurn 89 = .ok (.invokevirtual 123, 3) := by decide +kernel
theorem dX2_doTurn_92 : decode cX2_doTurn 92 = .ok (.pop, 1) := by decide +kernel
theorem dX2_doTurn_93 : decode cX2_doTurn 93 = .ok (.goto 58, 3) := by decide +kernel
theorem dX2_doTurn_96 : decode cX2_doTurn 96 = .ok (.aload_n 0, 1) := by decide +kernel
theorem dX2_doTurn_97 : decode cX2_doTurn 97 = .ok (.getfield 24, 3) := by decide +kernel
theorem dX2_doTurn_100 : decode cX2_doTurn 100 = .ok (.iload_n 2, 1) := by decide +kernel
theorem dX2_doTurn_101 : decode cX2_doTurn 101 = .ok (.iconst 3, 1) := by decide +kernel
theorem dX2_doTurn_102 : decode cX2_doTurn 102 = .ok (.irem, 1) := by decide +kernel
theorem dX2_doTurn_103 : decode cX2_doTurn 103 = .ok (.iload_n 2, 1) := by decide +kernel
theorem dX2_doTurn_104 : decode cX2_doTurn 104 = .ok (.iconst 4, 1) := by decide +kernel
theorem dX2_doTurn_105 : decode cX2_doTurn 105 = .ok (.idiv, 1) := by decide +kernel
theorem dX2_doTurn_106 : decode cX2_doTurn 106 = .ok (.iconst 4, 1) := by decide +kernel
theorem dX2_doTurn_107 : decode cX2_doTurn 107 = .ok (.irem, 1) := by decide +kernel
theorem dX2_doTurn_108 : decode cX2_doTurn 108 = .ok (.ifCond .ne 7, 3) := by decide +kernel
theorem dX2_doTurn_111 : decode cX2_doTurn 111 = .ok (.iconst 1, 1) := by decide +kernel
theorem dX2_doTurn_112 : decode cX2_doTurn 112 = .ok (.goto 4, 3) := by decide +kernel
theorem dX2_doTurn_115 : decode cX2_doTurn 115 = .ok (.iconst 0, 1) := by decide +kernel
theorem dX2_doTurn_116 : decode cX2_doTurn 116 = .ok (.invokevirtual 110, 3) := by decide +kernel
theorem dX2_doTurn_119 : decode cX2_doTurn 119 = .ok (.pop, 1) := by decide +kernel
theorem dX2_doTurn_120 : decode cX2_doTurn 120 = .ok (.goto 31, 3) := by decide +kernel
theorem dX2_doTurn_123 : decode cX2_doTurn 123 = .ok (.aload_n 0, 1) := by decide +kernel
theorem dX2_doTurn_124 : decode cX2_doTurn 124 = .ok (.getfield 24, 3) := by decide +kernel
theorem dX2_doTurn_127 : decode cX2_doTurn 127 = .ok (.iload_n 2, 1) := by decide +kernel
theorem dX2_doTurn_128 : decode cX2_doTurn 128 = .ok (.iconst 3, 1) := by decide +kernel
theorem dX2_doTurn_129 : decode cX2_doTurn 129 = .ok (.irem, 1) := by decide +kernel
theorem dX2_doTurn_130 : decode cX2_doTurn 130 = .ok (.invokevirtual 114, 3) := by decide +kernel
theorem dX2_doTurn_133 : decode cX2_doTurn 133 = .ok (.pop, 1) := by decide +kernel
theorem dX2_doTurn_134 : decode cX2_doTurn 134 = .ok (.goto 17, 3) := by decide +kernel
theorem dX2_doTurn_137 : decode cX2_doTurn 137 = .ok (.aload_n 0, 1) := by decide +kernel
theorem dX2_doTurn_138 : decode cX2_doTurn 138 = .ok (.getfield 24, 3) := by decide +kernel
theorem dX2_doTurn_141 : decode cX2_doTurn 141 = .ok (.iconst 1, 1) := by decide +kernel
theorem dX2_doTurn_142 : decode cX2_doTurn 142 = .ok (.iload_n 2, 1) := by decide +kernel
theorem dX2_doTurn_143 : decode cX2_doTurn 143 = .ok (.bipush 20, 2) := by decide +kernel
theorem dX2_doTurn_145 : decode cX2_doTurn 145 = .ok (.irem, 1) := by decide +kernel
theorem dX2_doTurn_146 : decode cX2_doTurn 146 = .ok (.iadd, 1) := by decide +kernel
theorem dX2_doTurn_147 : decode cX2_doTurn 147 = .ok (.invokevirtual 120, 3) := by decide +kernel
theorem dX2_doTurn_150 : decode cX2_doTurn 150 = .ok (.pop, 1) := by decide +kernel
theorem dX2_doTurn_151 : decode cX2_doTurn 151 = .ok (.return_, 1) := by decide +kernel
theorem dX2_save_0 : decode cX2_save 0 = .ok (.iload_n 1, 1) := by decide +kernel
theorem dX2_save_1 : decode cX2_save 1 = .ok (.invokestatic 272, 3) := by decide +kernel
theorem dX2_save_4 : decode cX2_save 4 = .ok (.aload_n 0, 1) := by decide +kernel
theorem dX2_save_5 : decode cX2_save 5 = .ok (.getfield 37, 3) := by decide +kernel
theorem dX2_save_8 : decode cX2_save 8 = .ok (.iload_n 1, 1) := by decide +kernel
theorem dX2_save_9 : decode cX2_save 9 = .ok (.aaload, 1) := by decide +kernel
theorem dX2_save_10 : decode cX2_save 10 = .ok (.aload_n 0, 1) := by decide +kernel
theorem dX2_save_11 : decode cX2_save 11 = .ok (.getfield 20, 3) := by decide +kernel
theorem dX2_save_14 : decode cX2_save 14 = .ok (.invokevirtual 220, 3) := by decide +kernel
theorem dX2_save_17 : decode cX2_save 17 = .ok (.aload_n 0, 1) := by decide +kernel
theorem dX2_save_18 : decode cX2_save 18 = .ok (.getfield 40, 3) := by decide +kernel
theorem dX2_save_21 : decode cX2_save 21 = .ok (.iload_n 1, 1) := by decide +kernel
theorem dX2_save_22 : decode cX2_save 22 = .ok (.iconst 1, 1) := by decide +kernel
theorem dX2_save_23 : decode cX2_save 23 = .ok (.bastore, 1) := by decide +kernel
theorem dX2_save_24 : decode cX2_save 24 = .ok (.aload_n 0, 1) := by decide +kernel
theorem dX2_save_25 : decode cX2_save 25 = .ok (.getfield 20, 3) := by decide +kernel
theorem dX2_save_28 : decode cX2_save 28 = .ok (.getfield 132, 3) := by decide +kernel
theorem dX2_save_31 : decode cX2_save 31 = .ok (.ireturn, 1) := by decide +kernel
theorem dX2_restore_0 : decode cX2_restore 0 = .ok (.iload_n 1, 1) := by decide +kernel
theorem dX2_restore_1 : decode cX2_restore 1 = .ok (.invokestatic 272, 3) := by decide +kernel
theorem dX2_restore_4 : decode cX2_restore 4 = .ok (.aload_n 0, 1) := by decide +kernel
theorem dX2_restore_5 : decode cX2_restore 5 = .ok (.getfield 40, 3) := by decide +kernel
theorem dX2_restore_8 : decode cX2_restore 8 = .ok (.iload_n 1, 1) := by decide +kernel
theorem dX2_restore_9 : decode cX2_restore 9 = .ok (.baload, 1) := by decide +kernel
theorem dX2_restore_10 : decode cX2_restore 10 = .ok (.ifCond .ne 14, 3) := by decide +kernel
theorem dX2_restore_13 : decode cX2_restore 13 = .ok (.new 51, 3) := by decide +kernel
theorem dX2_restore_16 : decode cX2_restore 16 = .ok (.dup, 1) := by decide +kernel
theorem dX2_restore_17 : decode cX2_restore 17 = .ok (.ldc_w 275, 3) := by decide +kernel
theorem dX2_restore_20 : decode cX2_restore 20 = .ok (.invokespecial 55, 3) := by decide +kernel
theorem dX2_restore_23 : decode cX2_restore 23 = .ok (.athrow, 1) := by decide +kernel
theorem dX2_restore_24 : decode cX2_restore 24 = .ok (.aload_n 0, 1) := by decide +kernel
theorem dX2_restore_25 : decode cX2_restore 25 = .ok (.getfield 20, 3) := by decide +kernel
theorem dX2_restore_28 : decode cX2_restore 28 = .ok (.aload_n 0, 1) := by decide +kernel
theorem dX2_restore_29 : decode cX2_restore 29 = .ok (.getfield 37, 3) := by decide +kernel
theorem dX2_restore_32 : decode cX2_restore 32 = .ok (.iload_n 1, 1) := by decide +kernel
theorem dX2_restore_33 : decode cX2_restore 33 = .ok (.aaload, 1) := by decide +kernel
theorem dX2_restore_34 : decode cX2_restore 34 = .ok (.invokevirtual 220, 3) := by decide +kernel
theorem dX2_restore_37 : decode cX2_restore 37 = .ok (.aload_n 0, 1) := by decide +kernel
theorem dX2_restore_38 : decode cX2_restore 38 = .ok (.invokevirtual 75, 3) := by decide +kernel
theorem dX2_restore_41 : decode cX2_restore 41 = .ok (.aload_n 0, 1) := by decide +kernel
theorem dX2_restore_42 : decode cX2_restore 42 = .ok (.getfield 20, 3) := by decide +kernel
theorem dX2_restore_45 : decode cX2_restore 45 = .ok (.getfield 132, 3) := by decide +kernel
theorem dX2_restore_48 : decode cX2_restore 48 = .ok (.ireturn, 1) := by decide +kernel
theorem dX2_checkSlot_0 : decode cX2_checkSlot 0 = .ok (.iload_n 0, 1) := by decide +kernel
theorem dX2_checkSlot_1 : decode cX2_checkSlot 1 = .ok (.ifCond .lt 8, 3) := by decide +kernel
theorem dX2_checkSlot_4 : decode cX2_checkSlot 4 = .ok (.iload_n 0, 1) := by decide +kernel
theorem dX2_checkSlot_5 : decode cX2_checkSlot 5 = .ok (.iconst 2, 1) := by decide +kernel
theorem dX2_checkSlot_6 : decode cX2_checkSlot 6 = .ok (.if_icmp .lt 14, 3) := by decide +kernel
theorem dX2_checkSlot_9 : decode cX2_checkSlot 9 = .ok (.new 175, 3) := by decide +kernel
theorem dX2_checkSlot_12 : decode cX2_checkSlot 12 = .ok (.dup, 1) := by decide +kernel
theorem dX2_checkSlot_13 : decode cX2_checkSlot 13 = .ok (.ldc_w 277, 3) := by decide +kernel
theorem dX2_checkSlot_16 : decode cX2_checkSlot 16 = .ok (.invokespecial 179, 3) := by decide +kernel
theorem dX2_checkSlot_19 : decode cX2_checkSlot 19 = .ok (.athrow, 1) := by decide +kernel
theorem dX2_checkSlot_20 : decode cX2_checkSlot 20 = .ok (.return_, 1) := by decide +kernel
