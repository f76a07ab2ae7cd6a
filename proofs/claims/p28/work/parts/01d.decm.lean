theorem dL_comes_0 : decode cL_comes 0 = .ok (.aload_n 0, 1) := by decide +kernel
theorem dL_comes_1 : decode cL_comes 1 = .ok (.iload_n 1, 1) := by decide +kernel
theorem dL_comes_2 : decode cL_comes 2 = .ok (.iload_n 2, 1) := by decide +kernel
theorem dL_comes_3 : decode cL_comes 3 = .ok (.iload_n 3, 1) := by decide +kernel
theorem dL_comes_4 : decode cL_comes 4 = .ok (.iload 4, 2) := by decide +kernel
theorem dL_comes_6 : decode cL_comes 6 = .ok (.invokevirtual 7, 3) := by decide +kernel
theorem dL_comes_9 : decode cL_comes 9 = .ok (.ireturn, 1) := by decide +kernel
theorem dL_comes_10 : decode cL_comes 10 = .ok (.astore 5, 2) := by decide +kernel
theorem dL_comes_12 : decode cL_comes 12 = .ok (.ldc 15, 2) := by decide +kernel
theorem dL_comes_14 : decode cL_comes 14 = .ok (.ireturn, 1) := by decide +kernel
theorem dL_comes_15 : decode cL_comes 15 = .ok (.astore 5, 2) := by decide +kernel
theorem dL_comes_17 : decode cL_comes 17 = .ok (.ldc 18, 2) := by decide +kernel
theorem dL_comes_19 : decode cL_comes 19 = .ok (.ireturn, 1) := by decide +kernel
theorem dL_comes_20 : decode cL_comes 20 = .ok (.astore 5, 2) := by decide +kernel
theorem dL_comes_22 : decode cL_comes 22 = .ok (.ldc 21, 2) := by decide +kernel
theorem dL_comes_24 : decode cL_comes 24 = .ok (.ireturn, 1) := by decide +kernel
theorem dL_loops_0 : decode cL_loops 0 = .ok (.aload_n 0, 1) := by decide +kernel
theorem dL_loops_1 : decode cL_loops 1 = .ok (.iload_n 1, 1) := by decide +kernel
theorem dL_loops_2 : decode cL_loops 2 = .ok (.iload_n 2, 1) := by decide +kernel
theorem dL_loops_3 : decode cL_loops 3 = .ok (.invokevirtual 22, 3) := by decide +kernel
theorem dL_loops_6 : decode cL_loops 6 = .ok (.ireturn, 1) := by decide +kernel
theorem dL_loops_7 : decode cL_loops 7 = .ok (.astore_n 3, 1) := by decide +kernel
theorem dL_loops_8 : decode cL_loops 8 = .ok (.ldc 15, 2) := by decide +kernel
theorem dL_loops_10 : decode cL_loops 10 = .ok (.ireturn, 1) := by decide +kernel
theorem dL_doScript_0 : decode cL_doScript 0 = .ok (.aload_n 0, 1) := by decide +kernel
theorem dL_doScript_1 : decode cL_doScript 1 = .ok (.iload_n 1, 1) := by decide +kernel
theorem dL_doScript_2 : decode cL_doScript 2 = .ok (.lload_n 2, 1) := by decide +kernel
theorem dL_doScript_3 : decode cL_doScript 3 = .ok (.invokevirtual 26, 3) := by decide +kernel
theorem dL_doScript_6 : decode cL_doScript 6 = .ok (.ireturn, 1) := by decide +kernel
theorem dL_doScript_7 : decode cL_doScript 7 = .ok (.astore 4, 2) := by decide +kernel
theorem dL_doScript_9 : decode cL_doScript 9 = .ok (.ldc 18, 2) := by decide +kernel
theorem dL_doScript_11 : decode cL_doScript 11 = .ok (.ireturn, 1) := by decide +kernel
theorem dL_doSimulate_0 : decode cL_doSimulate 0 = .ok (.aload_n 0, 1) := by decide +kernel
theorem dL_doSimulate_1 : decode cL_doSimulate 1 = .ok (.lload_n 1, 1) := by decide +kernel
theorem dL_doSimulate_2 : decode cL_doSimulate 2 = .ok (.iload_n 3, 1) := by decide +kernel
theorem dL_doSimulate_3 : decode cL_doSimulate 3 = .ok (.invokevirtual 30, 3) := by decide +kernel
theorem dL_doSimulate_6 : decode cL_doSimulate 6 = .ok (.ireturn, 1) := by decide +kernel
theorem dL_doSimulate_7 : decode cL_doSimulate 7 = .ok (.astore 4, 2) := by decide +kernel
theorem dL_doSimulate_9 : decode cL_doSimulate 9 = .ok (.ldc 18, 2) := by decide +kernel
theorem dL_doSimulate_11 : decode cL_doSimulate 11 = .ok (.ireturn, 1) := by decide +kernel
theorem dL_tryAppend_0 : decode cL_tryAppend 0 = .ok (.aload_n 0, 1) := by decide +kernel
theorem dL_tryAppend_1 : decode cL_tryAppend 1 = .ok (.iload_n 1, 1) := by decide +kernel
theorem dL_tryAppend_2 : decode cL_tryAppend 2 = .ok (.invokevirtual 34, 3) := by decide +kernel
theorem dL_tryAppend_5 : decode cL_tryAppend 5 = .ok (.ireturn, 1) := by decide +kernel
theorem dL_tryAppend_6 : decode cL_tryAppend 6 = .ok (.astore_n 2, 1) := by decide +kernel
theorem dL_tryAppend_7 : decode cL_tryAppend 7 = .ok (.ldc 18, 2) := by decide +kernel
theorem dL_tryAppend_9 : decode cL_tryAppend 9 = .ok (.ireturn, 1) := by decide +kernel
theorem dL_tryAppend_10 : decode cL_tryAppend 10 = .ok (.astore_n 2, 1) := by decide +kernel
theorem dL_tryAppend_11 : decode cL_tryAppend 11 = .ok (.ldc 21, 2) := by decide +kernel
theorem dL_tryAppend_13 : decode cL_tryAppend 13 = .ok (.ireturn, 1) := by decide +kernel
theorem dL_tryLoad_0 : decode cL_tryLoad 0 = .ok (.aload_n 0, 1) := by decide +kernel
theorem dL_tryLoad_1 : decode cL_tryLoad 1 = .ok (.invokevirtual 38, 3) := by decide +kernel
theorem dL_tryLoad_4 : decode cL_tryLoad 4 = .ok (.ireturn, 1) := by decide +kernel
theorem dL_tryLoad_5 : decode cL_tryLoad 5 = .ok (.astore_n 1, 1) := by decide +kernel
theorem dL_tryLoad_6 : decode cL_tryLoad 6 = .ok (.ldc 21, 2) := by decide +kernel
theorem dL_tryLoad_8 : decode cL_tryLoad 8 = .ok (.ireturn, 1) := by decide +kernel
theorem dL_tryAbout_0 : decode cL_tryAbout 0 = .ok (.aload_n 0, 1) := by decide +kernel
theorem dL_tryAbout_1 : decode cL_tryAbout 1 = .ok (.iload_n 1, 1) := by decide +kernel
theorem dL_tryAbout_2 : decode cL_tryAbout 2 = .ok (.invokevirtual 42, 3) := by decide +kernel
theorem dL_tryAbout_5 : decode cL_tryAbout 5 = .ok (.ireturn, 1) := by decide +kernel
theorem dL_tryAbout_6 : decode cL_tryAbout 6 = .ok (.astore_n 2, 1) := by decide +kernel
theorem dL_tryAbout_7 : decode cL_tryAbout 7 = .ok (.ldc 18, 2) := by decide +kernel
theorem dL_tryAbout_9 : decode cL_tryAbout 9 = .ok (.ireturn, 1) := by decide +kernel
theorem dL_tryLane_0 : decode cL_tryLane 0 = .ok (.aload_n 0, 1) := by decide +kernel
theorem dL_tryLane_1 : decode cL_tryLane 1 = .ok (.iload_n 1, 1) := by decide +kernel
theorem dL_tryLane_2 : decode cL_tryLane 2 = .ok (.iload_n 2, 1) := by decide +kernel
theorem dL_tryLane_3 : decode cL_tryLane 3 = .ok (.invokevirtual 45, 3) := by decide +kernel
theorem dL_tryLane_6 : decode cL_tryLane 6 = .ok (.ireturn, 1) := by decide +kernel
theorem dL_tryLane_7 : decode cL_tryLane 7 = .ok (.astore_n 3, 1) := by decide +kernel
theorem dL_tryLane_8 : decode cL_tryLane 8 = .ok (.ldc 15, 2) := by decide +kernel
theorem dL_tryLane_10 : decode cL_tryLane 10 = .ok (.ireturn, 1) := by decide +kernel
theorem dL_tryLane_11 : decode cL_tryLane 11 = .ok (.astore_n 3, 1) := by decide +kernel
theorem dL_tryLane_12 : decode cL_tryLane 12 = .ok (.ldc 18, 2) := by decide +kernel
theorem dL_tryLane_14 : decode cL_tryLane 14 = .ok (.ireturn, 1) := by decide +kernel
theorem dL_tryVehicle_0 : decode cL_tryVehicle 0 = .ok (.aload_n 0, 1) := by decide +kernel
theorem dL_tryVehicle_1 : decode cL_tryVehicle 1 = .ok (.iload_n 1, 1) := by decide +kernel
theorem dL_tryVehicle_2 : decode cL_tryVehicle 2 = .ok (.iload_n 2, 1) := by decide +kernel
theorem dL_tryVehicle_3 : decode cL_tryVehicle 3 = .ok (.iload_n 3, 1) := by decide +kernel
theorem dL_tryVehicle_4 : decode cL_tryVehicle 4 = .ok (.invokevirtual 49, 3) := by decide +kernel
theorem dL_tryVehicle_7 : decode cL_tryVehicle 7 = .ok (.ireturn, 1) := by decide +kernel
theorem dL_tryVehicle_8 : decode cL_tryVehicle 8 = .ok (.astore 4, 2) := by decide +kernel
theorem dL_tryVehicle_10 : decode cL_tryVehicle 10 = .ok (.ldc 15, 2) := by decide +kernel
theorem dL_tryVehicle_12 : decode cL_tryVehicle 12 = .ok (.ireturn, 1) := by decide +kernel
theorem dL_tryVehicle_13 : decode cL_tryVehicle 13 = .ok (.astore 4, 2) := by decide +kernel
theorem dL_tryVehicle_15 : decode cL_tryVehicle 15 = .ok (.ldc 18, 2) := by decide +kernel
theorem dL_tryVehicle_17 : decode cL_tryVehicle 17 = .ok (.ireturn, 1) := by decide +kernel
theorem dL_tryWhy_0 : decode cL_tryWhy 0 = .ok (.aload_n 0, 1) := by decide +kernel
theorem dL_tryWhy_1 : decode cL_tryWhy 1 = .ok (.iload_n 1, 1) := by decide +kernel
theorem dL_tryWhy_2 : decode cL_tryWhy 2 = .ok (.invokevirtual 53, 3) := by decide +kernel
theorem dL_tryWhy_5 : decode cL_tryWhy 5 = .ok (.ireturn, 1) := by decide +kernel
theorem dL_tryWhy_6 : decode cL_tryWhy 6 = .ok (.astore_n 2, 1) := by decide +kernel
theorem dL_tryWhy_7 : decode cL_tryWhy 7 = .ok (.ldc 15, 2) := by decide +kernel
theorem dL_tryWhy_9 : decode cL_tryWhy 9 = .ok (.ireturn, 1) := by decide +kernel
theorem dL_trySetting_0 : decode cL_trySetting 0 = .ok (.aload_n 0, 1) := by decide +kernel
theorem dL_trySetting_1 : decode cL_trySetting 1 = .ok (.iload_n 1, 1) := by decide +kernel
theorem dL_trySetting_2 : decode cL_trySetting 2 = .ok (.invokevirtual 56, 3) := by decide +kernel
theorem dL_trySetting_5 : decode cL_trySetting 5 = .ok (.ireturn, 1) := by decide +kernel
theorem dL_trySetting_6 : decode cL_trySetting 6 = .ok (.astore_n 2, 1) := by decide +kernel
theorem dL_trySetting_7 : decode cL_trySetting 7 = .ok (.ldc 18, 2) := by decide +kernel
theorem dL_trySetting_9 : decode cL_trySetting 9 = .ok (.ireturn, 1) := by decide +kernel
theorem dL_tryAdd_0 : decode cL_tryAdd 0 = .ok (.aload_n 0, 1) := by decide +kernel
theorem dL_tryAdd_1 : decode cL_tryAdd 1 = .ok (.invokevirtual 59, 3) := by decide +kernel
theorem dL_tryAdd_4 : decode cL_tryAdd 4 = .ok (.ireturn, 1) := by decide +kernel
theorem dL_tryAdd_5 : decode cL_tryAdd 5 = .ok (.astore_n 1, 1) := by decide +kernel
theorem dL_tryAdd_6 : decode cL_tryAdd 6 = .ok (.ldc 21, 2) := by decide +kernel
theorem dL_tryAdd_8 : decode cL_tryAdd 8 = .ok (.ireturn, 1) := by decide +kernel
theorem dL_tryMend_0 : decode cL_tryMend 0 = .ok (.aload_n 0, 1) := by decide +kernel
theorem dL_tryMend_1 : decode cL_tryMend 1 = .ok (.iload_n 1, 1) := by decide +kernel
theorem dL_tryMend_2 : decode cL_tryMend 2 = .ok (.invokevirtual 62, 3) := by decide +kernel
theorem dL_tryMend_5 : decode cL_tryMend 5 = .ok (.ireturn, 1) := by decide +kernel
theorem dL_tryMend_6 : decode cL_tryMend 6 = .ok (.astore_n 2, 1) := by decide +kernel
theorem dL_tryMend_7 : decode cL_tryMend 7 = .ok (.ldc 15, 2) := by decide +kernel
theorem dL_tryMend_9 : decode cL_tryMend 9 = .ok (.ireturn, 1) := by decide +kernel
theorem dL_tryMend_10 : decode cL_tryMend 10 = .ok (.astore_n 2, 1) := by decide +kernel
theorem dL_tryMend_11 : decode cL_tryMend 11 = .ok (.ldc 21, 2) := by decide +kernel
theorem dL_tryMend_13 : decode cL_tryMend 13 = .ok (.ireturn, 1) := by decide +kernel
theorem dL_tryRun_0 : decode cL_tryRun 0 = .ok (.aload_n 0, 1) := by decide +kernel
theorem dL_tryRun_1 : decode cL_tryRun 1 = .ok (.iload_n 1, 1) := by decide +kernel
theorem dL_tryRun_2 : decode cL_tryRun 2 = .ok (.invokevirtual 65, 3) := by decide +kernel
theorem dL_tryRun_5 : decode cL_tryRun 5 = .ok (.ireturn, 1) := by decide +kernel
theorem dL_tryRun_6 : decode cL_tryRun 6 = .ok (.astore_n 2, 1) := by decide +kernel
theorem dL_tryRun_7 : decode cL_tryRun 7 = .ok (.ldc 18, 2) := by decide +kernel
theorem dL_tryRun_9 : decode cL_tryRun 9 = .ok (.ireturn, 1) := by decide +kernel
theorem dL_tryLay_0 : decode cL_tryLay 0 = .ok (.aload_n 0, 1) := by decide +kernel
theorem dL_tryLay_1 : decode cL_tryLay 1 = .ok (.iload_n 1, 1) := by decide +kernel
theorem dL_tryLay_2 : decode cL_tryLay 2 = .ok (.iload_n 2, 1) := by decide +kernel
theorem dL_tryLay_3 : decode cL_tryLay 3 = .ok (.invokevirtual 68, 3) := by decide +kernel
theorem dL_tryLay_6 : decode cL_tryLay 6 = .ok (.ireturn, 1) := by decide +kernel
theorem dL_tryLay_7 : decode cL_tryLay 7 = .ok (.astore_n 3, 1) := by decide +kernel
theorem dL_tryLay_8 : decode cL_tryLay 8 = .ok (.ldc 18, 2) := by decide +kernel
theorem dL_tryLay_10 : decode cL_tryLay 10 = .ok (.ireturn, 1) := by decide +kernel
theorem dL_tryUndo_0 : decode cL_tryUndo 0 = .ok (.aload_n 0, 1) := by decide +kernel
theorem dL_tryUndo_1 : decode cL_tryUndo 1 = .ok (.invokevirtual 71, 3) := by decide +kernel
theorem dL_tryUndo_4 : decode cL_tryUndo 4 = .ok (.ireturn, 1) := by decide +kernel
theorem dL_tryUndo_5 : decode cL_tryUndo 5 = .ok (.astore_n 1, 1) := by decide +kernel
theorem dL_tryUndo_6 : decode cL_tryUndo 6 = .ok (.ldc 21, 2) := by decide +kernel
theorem dL_tryUndo_8 : decode cL_tryUndo 8 = .ok (.ireturn, 1) := by decide +kernel
theorem dL_tryEmpty_0 : decode cL_tryEmpty 0 = .ok (.aload_n 0, 1) := by decide +kernel
theorem dL_tryEmpty_1 : decode cL_tryEmpty 1 = .ok (.iload_n 1, 1) := by decide +kernel
theorem dL_tryEmpty_2 : decode cL_tryEmpty 2 = .ok (.invokevirtual 74, 3) := by decide +kernel
theorem dL_tryEmpty_5 : decode cL_tryEmpty 5 = .ok (.ireturn, 1) := by decide +kernel
theorem dL_tryEmpty_6 : decode cL_tryEmpty 6 = .ok (.astore_n 2, 1) := by decide +kernel
theorem dL_tryEmpty_7 : decode cL_tryEmpty 7 = .ok (.ldc 15, 2) := by decide +kernel
theorem dL_tryEmpty_9 : decode cL_tryEmpty 9 = .ok (.ireturn, 1) := by decide +kernel
theorem dL_tryThrough_0 : decode cL_tryThrough 0 = .ok (.aload_n 0, 1) := by decide +kernel
theorem dL_tryThrough_1 : decode cL_tryThrough 1 = .ok (.iload_n 1, 1) := by decide +kernel
theorem dL_tryThrough_2 : decode cL_tryThrough 2 = .ok (.iload_n 2, 1) := by decide +kernel
theorem dL_tryThrough_3 : decode cL_tryThrough 3 = .ok (.invokevirtual 77, 3) := by decide +kernel
theorem dL_tryThrough_6 : decode cL_tryThrough 6 = .ok (.ireturn, 1) := by decide +kernel
theorem dL_tryThrough_7 : decode cL_tryThrough 7 = .ok (.astore_n 3, 1) := by decide +kernel
theorem dL_tryThrough_8 : decode cL_tryThrough 8 = .ok (.ldc 15, 2) := by decide +kernel
theorem dL_tryThrough_10 : decode cL_tryThrough 10 = .ok (.ireturn, 1) := by decide +kernel
theorem dL_tryBest_0 : decode cL_tryBest 0 = .ok (.aload_n 0, 1) := by decide +kernel
theorem dL_tryBest_1 : decode cL_tryBest 1 = .ok (.iload_n 1, 1) := by decide +kernel
theorem dL_tryBest_2 : decode cL_tryBest 2 = .ok (.invokevirtual 80, 3) := by decide +kernel
theorem dL_tryBest_5 : decode cL_tryBest 5 = .ok (.ireturn, 1) := by decide +kernel
theorem dL_tryBest_6 : decode cL_tryBest 6 = .ok (.astore_n 2, 1) := by decide +kernel
theorem dL_tryBest_7 : decode cL_tryBest 7 = .ok (.ldc 18, 2) := by decide +kernel
theorem dL_tryBest_9 : decode cL_tryBest 9 = .ok (.ireturn, 1) := by decide +kernel
theorem dL_tryComing_0 : decode cL_tryComing 0 = .ok (.aload_n 0, 1) := by decide +kernel
theorem dL_tryComing_1 : decode cL_tryComing 1 = .ok (.iload_n 1, 1) := by decide +kernel
theorem dL_tryComing_2 : decode cL_tryComing 2 = .ok (.iload_n 2, 1) := by decide +kernel
theorem dL_tryComing_3 : decode cL_tryComing 3 = .ok (.invokevirtual 83, 3) := by decide +kernel
theorem dL_tryComing_6 : decode cL_tryComing 6 = .ok (.ireturn, 1) := by decide +kernel
theorem dL_tryComing_7 : decode cL_tryComing 7 = .ok (.astore_n 3, 1) := by decide +kernel
theorem dL_tryComing_8 : decode cL_tryComing 8 = .ok (.ldc 18, 2) := by decide +kernel
theorem dL_tryComing_10 : decode cL_tryComing 10 = .ok (.ireturn, 1) := by decide +kernel
theorem dL_tryHits_0 : decode cL_tryHits 0 = .ok (.aload_n 0, 1) := by decide +kernel
theorem dL_tryHits_1 : decode cL_tryHits 1 = .ok (.iload_n 1, 1) := by decide +kernel
theorem dL_tryHits_2 : decode cL_tryHits 2 = .ok (.invokevirtual 86, 3) := by decide +kernel
theorem dL_tryHits_5 : decode cL_tryHits 5 = .ok (.ireturn, 1) := by decide +kernel
theorem dL_tryHits_6 : decode cL_tryHits 6 = .ok (.astore_n 2, 1) := by decide +kernel
theorem dL_tryHits_7 : decode cL_tryHits 7 = .ok (.ldc 15, 2) := by decide +kernel
theorem dL_tryHits_9 : decode cL_tryHits 9 = .ok (.ireturn, 1) := by decide +kernel
theorem dL_tryKeep_0 : decode cL_tryKeep 0 = .ok (.aload_n 0, 1) := by decide +kernel
theorem dL_tryKeep_1 : decode cL_tryKeep 1 = .ok (.iload_n 1, 1) := by decide +kernel
theorem dL_tryKeep_2 : decode cL_tryKeep 2 = .ok (.invokevirtual 89, 3) := by decide +kernel
theorem dL_tryKeep_5 : decode cL_tryKeep 5 = .ok (.ireturn, 1) := by decide +kernel
theorem dL_tryKeep_6 : decode cL_tryKeep 6 = .ok (.astore_n 2, 1) := by decide +kernel
theorem dL_tryKeep_7 : decode cL_tryKeep 7 = .ok (.ldc 15, 2) := by decide +kernel
theorem dL_tryKeep_9 : decode cL_tryKeep 9 = .ok (.ireturn, 1) := by decide +kernel
theorem dL_tryBack_0 : decode cL_tryBack 0 = .ok (.aload_n 0, 1) := by decide +kernel
theorem dL_tryBack_1 : decode cL_tryBack 1 = .ok (.iload_n 1, 1) := by decide +kernel
theorem dL_tryBack_2 : decode cL_tryBack 2 = .ok (.invokevirtual 92, 3) := by decide +kernel
theorem dL_tryBack_5 : decode cL_tryBack 5 = .ok (.ireturn, 1) := by decide +kernel
theorem dL_tryBack_6 : decode cL_tryBack 6 = .ok (.astore_n 2, 1) := by decide +kernel
theorem dL_tryBack_7 : decode cL_tryBack 7 = .ok (.ldc 15, 2) := by decide +kernel
theorem dL_tryBack_9 : decode cL_tryBack 9 = .ok (.ireturn, 1) := by decide +kernel
theorem dL_tryBack_10 : decode cL_tryBack 10 = .ok (.astore_n 2, 1) := by decide +kernel
theorem dL_tryBack_11 : decode cL_tryBack 11 = .ok (.ldc 21, 2) := by decide +kernel
theorem dL_tryBack_13 : decode cL_tryBack 13 = .ok (.ireturn, 1) := by decide +kernel
theorem dL_call_0 : decode cL_call 0 = .ok (.iload_n 1, 1) := by decide +kernel
theorem dL_call_1 : decode cL_call 1 = .ok (.tableswitch 199 0 17 #[87, 93, 98, 104, 111, 120, 126, 132, 137, 143, 149, 156, 161, 167, 174, 180, 187, 193], 87) := by decide +kernel
theorem dL_call_88 : decode cL_call 88 = .ok (.aload_n 0, 1) := by decide +kernel
theorem dL_call_89 : decode cL_call 89 = .ok (.iload_n 2, 1) := by decide +kernel
theorem dL_call_90 : decode cL_call 90 = .ok (.invokestatic 95, 3) := by decide +kernel
theorem dL_call_93 : decode cL_call 93 = .ok (.ireturn, 1) := by decide +kernel
theorem dL_call_94 : decode cL_call 94 = .ok (.aload_n 0, 1) := by decide +kernel
theorem dL_call_95 : decode cL_call 95 = .ok (.invokestatic 101, 3) := by decide +kernel
theorem dL_call_98 : decode cL_call 98 = .ok (.ireturn, 1) := by decide +kernel
theorem dL_call_99 : decode cL_call 99 = .ok (.aload_n 0, 1) := by decide +kernel
theorem dL_call_100 : decode cL_call 100 = .ok (.iload_n 2, 1) := by decide +kernel
theorem dL_call_101 : decode cL_call 101 = .ok (.invokestatic 105, 3) := by decide +kernel
theorem dL_call_104 : decode cL_call 104 = .ok (.ireturn, 1) := by decide +kernel
theorem dL_call_105 : decode cL_call 105 = .ok (.aload_n 0, 1) := by decide +kernel
theorem dL_call_106 : decode cL_call 106 = .ok (.iload_n 2, 1) := by decide +kernel
theorem dL_call_107 : decode cL_call 107 = .ok (.iload_n 3, 1) := by decide +kernel
theorem dL_call_108 : decode cL_call 108 = .ok (.invokestatic 108, 3) := by decide +kernel
theorem dL_call_111 : decode cL_call 111 = .ok (.ireturn, 1) := by decide +kernel
theorem dL_call_112 : decode cL_call 112 = .ok (.aload_n 0, 1) := by decide +kernel
theorem dL_call_113 : decode cL_call 113 = .ok (.iload_n 2, 1) := by decide +kernel
theorem dL_call_114 : decode cL_call 114 = .ok (.iload_n 3, 1) := by decide +kernel
theorem dL_call_115 : decode cL_call 115 = .ok (.iload 4, 2) := by decide +kernel
theorem dL_call_117 : decode cL_call 117 = .ok (.invokestatic 112, 3) := by decide +kernel
theorem dL_call_120 : decode cL_call 120 = .ok (.ireturn, 1) := by decide +kernel
theorem dL_call_121 : decode cL_call 121 = .ok (.aload_n 0, 1) := by decide +kernel
theorem dL_call_122 : decode cL_call 122 = .ok (.iload_n 2, 1) := by decide +kernel
theorem dL_call_123 : decode cL_call 123 = .ok (.invokestatic 116, 3) := by decide +kernel
theorem dL_call_126 : decode cL_call 126 = .ok (.ireturn, 1) := by decide +kernel
theorem dL_call_127 : decode cL_call 127 = .ok (.aload_n 0, 1) := by decide +kernel
theorem dL_call_128 : decode cL_call 128 = .ok (.iload_n 2, 1) := by decide +kernel
theorem dL_call_129 : decode cL_call 129 = .ok (.invokestatic 119, 3) := by decide +kernel
theorem dL_call_132 : decode cL_call 132 = .ok (.ireturn, 1) := by decide +kernel
theorem dL_call_133 : decode cL_call 133 = .ok (.aload_n 0, 1) := by decide +kernel
theorem dL_call_134 : decode cL_call 134 = .ok (.invokestatic 122, 3) := by decide +kernel
theorem dL_call_137 : decode cL_call 137 = .ok (.ireturn, 1) := by decide +kernel
theorem dL_call_138 : decode cL_call 138 = .ok (.aload_n 0, 1) := by decide +kernel
theorem dL_call_139 : decode cL_call 139 = .ok (.iload_n 2, 1) := by decide +kernel
theorem dL_call_140 : decode cL_call 140 = .ok (.invokestatic 125, 3) := by decide +kernel
theorem dL_call_143 : decode cL_call 143 = .ok (.ireturn, 1) := by decide +kernel
theorem dL_call_144 : decode cL_call 144 = .ok (.aload_n 0, 1) := by decide +kernel
theorem dL_call_145 : decode cL_call 145 = .ok (.iload_n 2, 1) := by decide +kernel
theorem dL_call_146 : decode cL_call 146 = .ok (.invokestatic 128, 3) := by decide +kernel
theorem dL_call_149 : decode cL_call 149 = .ok (.ireturn, 1) := by decide +kernel
theorem dL_call_150 : decode cL_call 150 = .ok (.aload_n 0, 1) := by decide +kernel
theorem dL_call_151 : decode cL_call 151 = .ok (.iload_n 2, 1) := by decide +kernel
theorem dL_call_152 : decode cL_call 152 = .ok (.iload_n 3, 1) := by decide +kernel
theorem dL_call_153 : decode cL_call 153 = .ok (.invokestatic 131, 3) := by decide +kernel
theorem dL_call_156 : decode cL_call 156 = .ok (.ireturn, 1) := by decide +kernel
theorem dL_call_157 : decode cL_call 157 = .ok (.aload_n 0, 1) := by decide +kernel
theorem dL_call_158 : decode cL_call 158 = .ok (.invokestatic 134, 3) := by decide +kernel
theorem dL_call_161 : decode cL_call 161 = .ok (.ireturn, 1) := by decide +kernel
theorem dL_call_162 : decode cL_call 162 = .ok (.aload_n 0, 1) := by decide +kernel
theorem dL_call_163 : decode cL_call 163 = .ok (.iload_n 2, 1) := by decide +kernel
theorem dL_call_164 : decode cL_call 164 = .ok (.invokestatic 137, 3) := by decide +kernel
theorem dL_call_167 : decode cL_call 167 = .ok (.ireturn, 1) := by decide +kernel
theorem dL_call_168 : decode cL_call 168 = .ok (.aload_n 0, 1) := by decide +kernel
theorem dL_call_169 : decode cL_call 169 = .ok (.iload_n 2, 1) := by decide +kernel
theorem dL_call_170 : decode cL_call 170 = .ok (.iload_n 3, 1) := by decide +kernel
theorem dL_call_171 : decode cL_call 171 = .ok (.invokestatic 140, 3) := by decide +kernel
theorem dL_call_174 : decode cL_call 174 = .ok (.ireturn, 1) := by decide +kernel
theorem dL_call_175 : decode cL_call 175 = .ok (.aload_n 0, 1) := by decide +kernel
theorem dL_call_176 : decode cL_call 176 = .ok (.iload_n 2, 1) := by decide +kernel
theorem dL_call_177 : decode cL_call 177 = .ok (.invokestatic 143, 3) := by decide +kernel
theorem dL_call_180 : decode cL_call 180 = .ok (.ireturn, 1) := by decide +kernel
theorem dL_call_181 : decode cL_call 181 = .ok (.aload_n 0, 1) := by decide +kernel
theorem dL_call_182 : decode cL_call 182 = .ok (.iload_n 2, 1) := by decide +kernel
theorem dL_call_183 : decode cL_call 183 = .ok (.iload_n 3, 1) := by decide +kernel
theorem dL_call_184 : decode cL_call 184 = .ok (.invokestatic 146, 3) := by decide +kernel
theorem dL_call_187 : decode cL_call 187 = .ok (.ireturn, 1) := by decide +kernel
theorem dL_call_188 : decode cL_call 188 = .ok (.aload_n 0, 1) := by decide +kernel
theorem dL_call_189 : decode cL_call 189 = .ok (.iload_n 2, 1) := by decide +kernel
theorem dL_call_190 : decode cL_call 190 = .ok (.invokestatic 149, 3) := by decide +kernel
theorem dL_call_193 : decode cL_call 193 = .ok (.ireturn, 1) := by decide +kernel
theorem dL_call_194 : decode cL_call 194 = .ok (.aload_n 0, 1) := by decide +kernel
theorem dL_call_195 : decode cL_call 195 = .ok (.iload_n 2, 1) := by decide +kernel
theorem dL_call_196 : decode cL_call 196 = .ok (.invokestatic 152, 3) := by decide +kernel
theorem dL_call_199 : decode cL_call 199 = .ok (.ireturn, 1) := by decide +kernel
theorem dL_call_200 : decode cL_call 200 = .ok (.aload_n 0, 1) := by decide +kernel
theorem dL_call_201 : decode cL_call 201 = .ok (.iload_n 2, 1) := by decide +kernel
theorem dL_call_202 : decode cL_call 202 = .ok (.invokestatic 155, 3) := by decide +kernel
theorem dL_call_205 : decode cL_call 205 = .ok (.ireturn, 1) := by decide +kernel
theorem dL_cell_0 : decode cL_cell 0 = .ok (.iload_n 1, 1) := by decide +kernel
theorem dL_cell_1 : decode cL_cell 1 = .ok (.aload_n 0, 1) := by decide +kernel
theorem dL_cell_2 : decode cL_cell 2 = .ok (.arraylength, 1) := by decide +kernel
theorem dL_cell_3 : decode cL_cell 3 = .ok (.if_icmp .ge 9, 3) := by decide +kernel
theorem dL_cell_6 : decode cL_cell 6 = .ok (.aload_n 0, 1) := by decide +kernel
theorem dL_cell_7 : decode cL_cell 7 = .ok (.iload_n 1, 1) := by decide +kernel
theorem dL_cell_8 : decode cL_cell 8 = .ok (.iaload, 1) := by decide +kernel
theorem dL_cell_9 : decode cL_cell 9 = .ok (.goto 13, 3) := by decide +kernel
theorem dL_cell_12 : decode cL_cell 12 = .ok (.ldc 158, 2) := by decide +kernel
theorem dL_cell_14 : decode cL_cell 14 = .ok (.iload_n 1, 1) := by decide +kernel
theorem dL_cell_15 : decode cL_cell 15 = .ok (.iconst 3, 1) := by decide +kernel
theorem dL_cell_16 : decode cL_cell 16 = .ok (.iadd, 1) := by decide +kernel
theorem dL_cell_17 : decode cL_cell 17 = .ok (.imul, 1) := by decide +kernel
theorem dL_cell_18 : decode cL_cell 18 = .ok (.sipush 11273, 3) := by decide +kernel
theorem dL_cell_21 : decode cL_cell 21 = .ok (.iadd, 1) := by decide +kernel
theorem dL_cell_22 : decode cL_cell 22 = .ok (.ldc 159, 2) := by decide +kernel
theorem dL_cell_24 : decode cL_cell 24 = .ok (.iand, 1) := by decide +kernel
theorem dL_cell_25 : decode cL_cell 25 = .ok (.ireturn, 1) := by decide +kernel
theorem dL_thrown_0 : decode cL_thrown 0 = .ok (.iload_n 0, 1) := by decide +kernel
theorem dL_thrown_1 : decode cL_thrown 1 = .ok (.ldc 15, 2) := by decide +kernel
theorem dL_thrown_3 : decode cL_thrown 3 = .ok (.if_icmp .eq 15, 3) := by decide +kernel
theorem dL_thrown_6 : decode cL_thrown 6 = .ok (.iload_n 0, 1) := by decide +kernel
theorem dL_thrown_7 : decode cL_thrown 7 = .ok (.ldc 18, 2) := by decide +kernel
theorem dL_thrown_9 : decode cL_thrown 9 = .ok (.if_icmp .eq 9, 3) := by decide +kernel
theorem dL_thrown_12 : decode cL_thrown 12 = .ok (.iload_n 0, 1) := by decide +kernel
theorem dL_thrown_13 : decode cL_thrown 13 = .ok (.ldc 21, 2) := by decide +kernel
theorem dL_thrown_15 : decode cL_thrown 15 = .ok (.if_icmp .ne 7, 3) := by decide +kernel
theorem dL_thrown_18 : decode cL_thrown 18 = .ok (.iconst 1, 1) := by decide +kernel
theorem dL_thrown_19 : decode cL_thrown 19 = .ok (.goto 4, 3) := by decide +kernel
theorem dL_thrown_22 : decode cL_thrown 22 = .ok (.iconst 0, 1) := by decide +kernel
theorem dL_thrown_23 : decode cL_thrown 23 = .ok (.ireturn, 1) := by decide +kernel
theorem dL_refuses_0 : decode cL_refuses 0 = .ok (.aload_n 0, 1) := by decide +kernel
theorem dL_refuses_1 : decode cL_refuses 1 = .ok (.iconst 2, 1) := by decide +kernel
theorem dL_refuses_2 : decode cL_refuses 2 = .ok (.iconst 0, 1) := by decide +kernel
theorem dL_refuses_3 : decode cL_refuses 3 = .ok (.iconst 0, 1) := by decide +kernel
theorem dL_refuses_4 : decode cL_refuses 4 = .ok (.iconst 0, 1) := by decide +kernel
theorem dL_refuses_5 : decode cL_refuses 5 = .ok (.invokestatic 160, 3) := by decide +kernel
theorem dL_refuses_8 : decode cL_refuses 8 = .ok (.iload_n 1, 1) := by decide +kernel
theorem dL_refuses_9 : decode cL_refuses 9 = .ok (.bipush 50, 2) := by decide +kernel
theorem dL_refuses_11 : decode cL_refuses 11 = .ok (.irem, 1) := by decide +kernel
theorem dL_refuses_12 : decode cL_refuses 12 = .ok (.iadd, 1) := by decide +kernel
theorem dL_refuses_13 : decode cL_refuses 13 = .ok (.istore_n 2, 1) := by decide +kernel
theorem dL_refuses_14 : decode cL_refuses 14 = .ok (.aload_n 0, 1) := by decide +kernel
theorem dL_refuses_15 : decode cL_refuses 15 = .ok (.iconst 3, 1) := by decide +kernel
theorem dL_refuses_16 : decode cL_refuses 16 = .ok (.iconst 0, 1) := by decide +kernel
theorem dL_refuses_17 : decode cL_refuses 17 = .ok (.iconst 0, 1) := by decide +kernel
theorem dL_refuses_18 : decode cL_refuses 18 = .ok (.iconst 0, 1) := by decide +kernel
theorem dL_refuses_19 : decode cL_refuses 19 = .ok (.invokestatic 160, 3) := by decide +kernel
theorem dL_refuses_22 : decode cL_refuses 22 = .ok (.iload_n 1, 1) := by decide +kernel
theorem dL_refuses_23 : decode cL_refuses 23 = .ok (.bipush 50, 2) := by decide +kernel
theorem dL_refuses_25 : decode cL_refuses 25 = .ok (.irem, 1) := by decide +kernel
theorem dL_refuses_26 : decode cL_refuses 26 = .ok (.iadd, 1) := by decide +kernel
theorem dL_refuses_27 : decode cL_refuses 27 = .ok (.istore_n 3, 1) := by decide +kernel
theorem dL_refuses_28 : decode cL_refuses 28 = .ok (.iload_n 1, 1) := by decide +kernel
theorem dL_refuses_29 : decode cL_refuses 29 = .ok (.iconst 2, 1) := by decide +kernel
theorem dL_refuses_30 : decode cL_refuses 30 = .ok (.irem, 1) := by decide +kernel
theorem dL_refuses_31 : decode cL_refuses 31 = .ok (.ifCond .ne 12, 3) := by decide +kernel
theorem dL_refuses_34 : decode cL_refuses 34 = .ok (.iconst 1, 1) := by decide +kernel
theorem dL_refuses_35 : decode cL_refuses 35 = .ok (.iload_n 1, 1) := by decide +kernel
theorem dL_refuses_36 : decode cL_refuses 36 = .ok (.bipush 99, 2) := by decide +kernel
theorem dL_refuses_38 : decode cL_refuses 38 = .ok (.irem, 1) := by decide +kernel
theorem dL_refuses_39 : decode cL_refuses 39 = .ok (.isub, 1) := by decide +kernel
theorem dL_refuses_40 : decode cL_refuses 40 = .ok (.goto 10, 3) := by decide +kernel
theorem dL_refuses_43 : decode cL_refuses 43 = .ok (.bipush 13, 2) := by decide +kernel
theorem dL_refuses_45 : decode cL_refuses 45 = .ok (.iload_n 1, 1) := by decide +kernel
theorem dL_refuses_46 : decode cL_refuses 46 = .ok (.bipush 99, 2) := by decide +kernel
theorem dL_refuses_48 : decode cL_refuses 48 = .ok (.irem, 1) := by decide +kernel
theorem dL_refuses_49 : decode cL_refuses 49 = .ok (.iadd, 1) := by decide +kernel
theorem dL_refuses_50 : decode cL_refuses 50 = .ok (.istore 4, 2) := by decide +kernel
theorem dL_refuses_52 : decode cL_refuses 52 = .ok (.aload_n 0, 1) := by decide +kernel
theorem dL_refuses_53 : decode cL_refuses 53 = .ok (.iconst 0, 1) := by decide +kernel
theorem dL_refuses_54 : decode cL_refuses 54 = .ok (.iload_n 1, 1) := by decide +kernel
theorem dL_refuses_55 : decode cL_refuses 55 = .ok (.iconst 2, 1) := by decide +kernel
theorem dL_refuses_56 : decode cL_refuses 56 = .ok (.irem, 1) := by decide +kernel
theorem dL_refuses_57 : decode cL_refuses 57 = .ok (.ifCond .ne 12, 3) := by decide +kernel
theorem dL_refuses_60 : decode cL_refuses 60 = .ok (.iconst (-1), 1) := by decide +kernel
theorem dL_refuses_61 : decode cL_refuses 61 = .ok (.iload_n 1, 1) := by decide +kernel
theorem dL_refuses_62 : decode cL_refuses 62 = .ok (.bipush 9, 2) := by decide +kernel
theorem dL_refuses_64 : decode cL_refuses 64 = .ok (.irem, 1) := by decide +kernel
theorem dL_refuses_65 : decode cL_refuses 65 = .ok (.isub, 1) := by decide +kernel
theorem dL_refuses_66 : decode cL_refuses 66 = .ok (.goto 11, 3) := by decide +kernel
theorem dL_refuses_69 : decode cL_refuses 69 = .ok (.sipush 256, 3) := by decide +kernel
theorem dL_refuses_72 : decode cL_refuses 72 = .ok (.iload_n 1, 1) := by decide +kernel
theorem dL_refuses_73 : decode cL_refuses 73 = .ok (.bipush 9, 2) := by decide +kernel
theorem dL_refuses_75 : decode cL_refuses 75 = .ok (.irem, 1) := by decide +kernel
theorem dL_refuses_76 : decode cL_refuses 76 = .ok (.iadd, 1) := by decide +kernel
theorem dL_refuses_77 : decode cL_refuses 77 = .ok (.iconst 0, 1) := by decide +kernel
theorem dL_refuses_78 : decode cL_refuses 78 = .ok (.iconst 0, 1) := by decide +kernel
theorem dL_refuses_79 : decode cL_refuses 79 = .ok (.invokestatic 160, 3) := by decide +kernel
theorem dL_refuses_82 : decode cL_refuses 82 = .ok (.ldc 18, 2) := by decide +kernel
theorem dL_refuses_84 : decode cL_refuses 84 = .ok (.if_icmp .ne 449, 3) := by decide +kernel
theorem dL_refuses_87 : decode cL_refuses 87 = .ok (.aload_n 0, 1) := by decide +kernel
theorem dL_refuses_88 : decode cL_refuses 88 = .ok (.iconst 2, 1) := by decide +kernel
theorem dL_refuses_89 : decode cL_refuses 89 = .ok (.bipush 10, 2) := by decide +kernel
theorem dL_refuses_91 : decode cL_refuses 91 = .ok (.iload_n 1, 1) := by decide +kernel
theorem dL_refuses_92 : decode cL_refuses 92 = .ok (.bipush 50, 2) := by decide +kernel
theorem dL_refuses_94 : decode cL_refuses 94 = .ok (.irem, 1) := by decide +kernel
theorem dL_refuses_95 : decode cL_refuses 95 = .ok (.iadd, 1) := by decide +kernel
theorem dL_refuses_96 : decode cL_refuses 96 = .ok (.iconst 0, 1) := by decide +kernel
theorem dL_refuses_97 : decode cL_refuses 97 = .ok (.iconst 0, 1) := by decide +kernel
theorem dL_refuses_98 : decode cL_refuses 98 = .ok (.invokestatic 160, 3) := by decide +kernel
theorem dL_refuses_101 : decode cL_refuses 101 = .ok (.ldc 18, 2) := by decide +kernel
theorem dL_refuses_103 : decode cL_refuses 103 = .ok (.if_icmp .ne 430, 3) := by decide +kernel
theorem dL_refuses_106 : decode cL_refuses 106 = .ok (.aload_n 0, 1) := by decide +kernel
theorem dL_refuses_107 : decode cL_refuses 107 = .ok (.iconst 3, 1) := by decide +kernel
theorem dL_refuses_108 : decode cL_refuses 108 = .ok (.iload_n 2, 1) := by decide +kernel
theorem dL_refuses_109 : decode cL_refuses 109 = .ok (.bipush 99, 2) := by decide +kernel
theorem dL_refuses_111 : decode cL_refuses 111 = .ok (.iconst 0, 1) := by decide +kernel
theorem dL_refuses_112 : decode cL_refuses 112 = .ok (.invokestatic 160, 3) := by decide +kernel
theorem dL_refuses_115 : decode cL_refuses 115 = .ok (.ldc 15, 2) := by decide +kernel
theorem dL_refuses_117 : decode cL_refuses 117 = .ok (.if_icmp .ne 416, 3) := by decide +kernel
theorem dL_refuses_120 : decode cL_refuses 120 = .ok (.aload_n 0, 1) := by decide +kernel
theorem dL_refuses_121 : decode cL_refuses 121 = .ok (.iconst 3, 1) := by decide +kernel
theorem dL_refuses_122 : decode cL_refuses 122 = .ok (.iconst 0, 1) := by decide +kernel
theorem dL_refuses_123 : decode cL_refuses 123 = .ok (.bipush 8, 2) := by decide +kernel
theorem dL_refuses_125 : decode cL_refuses 125 = .ok (.iload_n 1, 1) := by decide +kernel
theorem dL_refuses_126 : decode cL_refuses 126 = .ok (.bipush 9, 2) := by decide +kernel
theorem dL_refuses_128 : decode cL_refuses 128 = .ok (.irem, 1) := by decide +kernel
theorem dL_refuses_129 : decode cL_refuses 129 = .ok (.iadd, 1) := by decide +kernel
theorem dL_refuses_130 : decode cL_refuses 130 = .ok (.iconst 0, 1) := by decide +kernel
theorem dL_refuses_131 : decode cL_refuses 131 = .ok (.invokestatic 160, 3) := by decide +kernel
theorem dL_refuses_134 : decode cL_refuses 134 = .ok (.ldc 18, 2) := by decide +kernel
theorem dL_refuses_136 : decode cL_refuses 136 = .ok (.if_icmp .ne 397, 3) := by decide +kernel
theorem dL_refuses_139 : decode cL_refuses 139 = .ok (.aload_n 0, 1) := by decide +kernel
theorem dL_refuses_140 : decode cL_refuses 140 = .ok (.iconst 4, 1) := by decide +kernel
theorem dL_refuses_141 : decode cL_refuses 141 = .ok (.iload_n 2, 1) := by decide +kernel
theorem dL_refuses_142 : decode cL_refuses 142 = .ok (.iconst 0, 1) := by decide +kernel
theorem dL_refuses_143 : decode cL_refuses 143 = .ok (.iconst 0, 1) := by decide +kernel
theorem dL_refuses_144 : decode cL_refuses 144 = .ok (.invokestatic 160, 3) := by decide +kernel
theorem dL_refuses_147 : decode cL_refuses 147 = .ok (.ldc 15, 2) := by decide +kernel
theorem dL_refuses_149 : decode cL_refuses 149 = .ok (.if_icmp .ne 384, 3) := by decide +kernel
theorem dL_refuses_152 : decode cL_refuses 152 = .ok (.aload_n 0, 1) := by decide +kernel
theorem dL_refuses_153 : decode cL_refuses 153 = .ok (.iconst 4, 1) := by decide +kernel
theorem dL_refuses_154 : decode cL_refuses 154 = .ok (.iconst 0, 1) := by decide +kernel
theorem dL_refuses_155 : decode cL_refuses 155 = .ok (.iload_n 3, 1) := by decide +kernel
theorem dL_refuses_156 : decode cL_refuses 156 = .ok (.bipush 9, 2) := by decide +kernel
theorem dL_refuses_158 : decode cL_refuses 158 = .ok (.invokestatic 160, 3) := by decide +kernel
theorem dL_refuses_161 : decode cL_refuses 161 = .ok (.ldc 15, 2) := by decide +kernel
theorem dL_refuses_163 : decode cL_refuses 163 = .ok (.if_icmp .ne 370, 3) := by decide +kernel
theorem dL_refuses_166 : decode cL_refuses 166 = .ok (.aload_n 0, 1) := by decide +kernel
theorem dL_refuses_167 : decode cL_refuses 167 = .ok (.iconst 5, 1) := by decide +kernel
theorem dL_refuses_168 : decode cL_refuses 168 = .ok (.iload_n 2, 1) := by decide +kernel
theorem dL_refuses_169 : decode cL_refuses 169 = .ok (.iconst 0, 1) := by decide +kernel
theorem dL_refuses_170 : decode cL_refuses 170 = .ok (.iconst 0, 1) := by decide +kernel
theorem dL_refuses_171 : decode cL_refuses 171 = .ok (.invokestatic 160, 3) := by decide +kernel
theorem dL_refuses_174 : decode cL_refuses 174 = .ok (.ldc 15, 2) := by decide +kernel
theorem dL_refuses_176 : decode cL_refuses 176 = .ok (.if_icmp .ne 357, 3) := by decide +kernel
theorem dL_refuses_179 : decode cL_refuses 179 = .ok (.aload_n 0, 1) := by decide +kernel
theorem dL_refuses_180 : decode cL_refuses 180 = .ok (.bipush 6, 2) := by decide +kernel
theorem dL_refuses_182 : decode cL_refuses 182 = .ok (.iconst 3, 1) := by decide +kernel
theorem dL_refuses_183 : decode cL_refuses 183 = .ok (.iload_n 1, 1) := by decide +kernel
theorem dL_refuses_184 : decode cL_refuses 184 = .ok (.bipush 9, 2) := by decide +kernel
theorem dL_refuses_186 : decode cL_refuses 186 = .ok (.irem, 1) := by decide +kernel
theorem dL_refuses_187 : decode cL_refuses 187 = .ok (.iadd, 1) := by decide +kernel
theorem dL_refuses_188 : decode cL_refuses 188 = .ok (.iconst 0, 1) := by decide +kernel
theorem dL_refuses_189 : decode cL_refuses 189 = .ok (.iconst 0, 1) := by decide +kernel
theorem dL_refuses_190 : decode cL_refuses 190 = .ok (.invokestatic 160, 3) := by decide +kernel
theorem dL_refuses_193 : decode cL_refuses 193 = .ok (.ldc 18, 2) := by decide +kernel
theorem dL_refuses_195 : decode cL_refuses 195 = .ok (.if_icmp .ne 338, 3) := by decide +kernel
theorem dL_refuses_198 : decode cL_refuses 198 = .ok (.aload_n 0, 1) := by decide +kernel
theorem dL_refuses_199 : decode cL_refuses 199 = .ok (.iload_n 2, 1) := by decide +kernel
theorem dL_refuses_200 : decode cL_refuses 200 = .ok (.iload 4, 2) := by decide +kernel
theorem dL_refuses_202 : decode cL_refuses 202 = .ok (.iconst 1, 1) := by decide +kernel
theorem dL_refuses_203 : decode cL_refuses 203 = .ok (.iconst 1, 1) := by decide +kernel
theorem dL_refuses_204 : decode cL_refuses 204 = .ok (.invokestatic 164, 3) := by decide +kernel
theorem dL_refuses_207 : decode cL_refuses 207 = .ok (.ldc 15, 2) := by decide +kernel
theorem dL_refuses_209 : decode cL_refuses 209 = .ok (.if_icmp .ne 324, 3) := by decide +kernel
theorem dL_refuses_212 : decode cL_refuses 212 = .ok (.aload_n 0, 1) := by decide +kernel
theorem dL_refuses_213 : decode cL_refuses 213 = .ok (.iconst 0, 1) := by decide +kernel
theorem dL_refuses_214 : decode cL_refuses 214 = .ok (.iload 4, 2) := by decide +kernel
theorem dL_refuses_216 : decode cL_refuses 216 = .ok (.iconst 1, 1) := by decide +kernel
theorem dL_refuses_217 : decode cL_refuses 217 = .ok (.iconst 1, 1) := by decide +kernel
theorem dL_refuses_218 : decode cL_refuses 218 = .ok (.invokestatic 164, 3) := by decide +kernel
theorem dL_refuses_221 : decode cL_refuses 221 = .ok (.ldc 18, 2) := by decide +kernel
theorem dL_refuses_223 : decode cL_refuses 223 = .ok (.if_icmp .ne 310, 3) := by decide +kernel
theorem dL_refuses_226 : decode cL_refuses 226 = .ok (.aload_n 0, 1) := by decide +kernel
theorem dL_refuses_227 : decode cL_refuses 227 = .ok (.iload_n 2, 1) := by decide +kernel
theorem dL_refuses_228 : decode cL_refuses 228 = .ok (.iconst 1, 1) := by decide +kernel
theorem dL_refuses_229 : decode cL_refuses 229 = .ok (.invokestatic 168, 3) := by decide +kernel
theorem dL_refuses_232 : decode cL_refuses 232 = .ok (.ldc 15, 2) := by decide +kernel
theorem dL_refuses_234 : decode cL_refuses 234 = .ok (.if_icmp .ne 299, 3) := by decide +kernel
theorem dL_refuses_237 : decode cL_refuses 237 = .ok (.aload_n 0, 1) := by decide +kernel
theorem dL_refuses_238 : decode cL_refuses 238 = .ok (.bipush 8, 2) := by decide +kernel
theorem dL_refuses_240 : decode cL_refuses 240 = .ok (.iload_n 2, 1) := by decide +kernel
theorem dL_refuses_241 : decode cL_refuses 241 = .ok (.iconst 0, 1) := by decide +kernel
theorem dL_refuses_242 : decode cL_refuses 242 = .ok (.iconst 0, 1) := by decide +kernel
theorem dL_refuses_243 : decode cL_refuses 243 = .ok (.invokestatic 160, 3) := by decide +kernel
theorem dL_refuses_246 : decode cL_refuses 246 = .ok (.ldc 15, 2) := by decide +kernel
theorem dL_refuses_248 : decode cL_refuses 248 = .ok (.if_icmp .ne 285, 3) := by decide +kernel
theorem dL_refuses_251 : decode cL_refuses 251 = .ok (.aload_n 0, 1) := by decide +kernel
theorem dL_refuses_252 : decode cL_refuses 252 = .ok (.bipush 9, 2) := by decide +kernel
theorem dL_refuses_254 : decode cL_refuses 254 = .ok (.bipush 61, 2) := by decide +kernel
theorem dL_refuses_256 : decode cL_refuses 256 = .ok (.iload_n 1, 1) := by decide +kernel
theorem dL_refuses_257 : decode cL_refuses 257 = .ok (.bipush 9, 2) := by decide +kernel
theorem dL_refuses_259 : decode cL_refuses 259 = .ok (.irem, 1) := by decide +kernel
theorem dL_refuses_260 : decode cL_refuses 260 = .ok (.iadd, 1) := by decide +kernel
theorem dL_refuses_261 : decode cL_refuses 261 = .ok (.iconst 0, 1) := by decide +kernel
theorem dL_refuses_262 : decode cL_refuses 262 = .ok (.iconst 0, 1) := by decide +kernel
theorem dL_refuses_263 : decode cL_refuses 263 = .ok (.invokestatic 160, 3) := by decide +kernel
theorem dL_refuses_266 : decode cL_refuses 266 = .ok (.ldc 18, 2) := by decide +kernel
theorem dL_refuses_268 : decode cL_refuses 268 = .ok (.if_icmp .ne 265, 3) := by decide +kernel
theorem dL_refuses_271 : decode cL_refuses 271 = .ok (.aload_n 0, 1) := by decide +kernel
theorem dL_refuses_272 : decode cL_refuses 272 = .ok (.bipush 10, 2) := by decide +kernel
theorem dL_refuses_274 : decode cL_refuses 274 = .ok (.iload_n 1, 1) := by decide +kernel
theorem dL_refuses_275 : decode cL_refuses 275 = .ok (.iconst 3, 1) := by decide +kernel
theorem dL_refuses_276 : decode cL_refuses 276 = .ok (.irem, 1) := by decide +kernel
theorem dL_refuses_277 : decode cL_refuses 277 = .ok (.bipush 61, 2) := by decide +kernel
theorem dL_refuses_279 : decode cL_refuses 279 = .ok (.iload_n 1, 1) := by decide +kernel
theorem dL_refuses_280 : decode cL_refuses 280 = .ok (.bipush 9, 2) := by decide +kernel
theorem dL_refuses_282 : decode cL_refuses 282 = .ok (.irem, 1) := by decide +kernel
theorem dL_refuses_283 : decode cL_refuses 283 = .ok (.iadd, 1) := by decide +kernel
theorem dL_refuses_284 : decode cL_refuses 284 = .ok (.iconst 0, 1) := by decide +kernel
theorem dL_refuses_285 : decode cL_refuses 285 = .ok (.invokestatic 160, 3) := by decide +kernel
theorem dL_refuses_288 : decode cL_refuses 288 = .ok (.ldc 18, 2) := by decide +kernel
theorem dL_refuses_290 : decode cL_refuses 290 = .ok (.if_icmp .ne 243, 3) := by decide +kernel
theorem dL_refuses_293 : decode cL_refuses 293 = .ok (.aload_n 0, 1) := by decide +kernel
theorem dL_refuses_294 : decode cL_refuses 294 = .ok (.bipush 10, 2) := by decide +kernel
theorem dL_refuses_296 : decode cL_refuses 296 = .ok (.iload_n 1, 1) := by decide +kernel
theorem dL_refuses_297 : decode cL_refuses 297 = .ok (.iconst 3, 1) := by decide +kernel
theorem dL_refuses_298 : decode cL_refuses 298 = .ok (.irem, 1) := by decide +kernel
theorem dL_refuses_299 : decode cL_refuses 299 = .ok (.iconst (-1), 1) := by decide +kernel
theorem dL_refuses_300 : decode cL_refuses 300 = .ok (.iload_n 1, 1) := by decide +kernel
theorem dL_refuses_301 : decode cL_refuses 301 = .ok (.bipush 9, 2) := by decide +kernel
theorem dL_refuses_303 : decode cL_refuses 303 = .ok (.irem, 1) := by decide +kernel
theorem dL_refuses_304 : decode cL_refuses 304 = .ok (.isub, 1) := by decide +kernel
theorem dL_refuses_305 : decode cL_refuses 305 = .ok (.iconst 0, 1) := by decide +kernel
theorem dL_refuses_306 : decode cL_refuses 306 = .ok (.invokestatic 160, 3) := by decide +kernel
theorem dL_refuses_309 : decode cL_refuses 309 = .ok (.ldc 18, 2) := by decide +kernel
theorem dL_refuses_311 : decode cL_refuses 311 = .ok (.if_icmp .ne 222, 3) := by decide +kernel
theorem dL_refuses_314 : decode cL_refuses 314 = .ok (.aload_n 0, 1) := by decide +kernel
theorem dL_refuses_315 : decode cL_refuses 315 = .ok (.bipush 10, 2) := by decide +kernel
theorem dL_refuses_317 : decode cL_refuses 317 = .ok (.iload_n 1, 1) := by decide +kernel
theorem dL_refuses_318 : decode cL_refuses 318 = .ok (.iconst 2, 1) := by decide +kernel
theorem dL_refuses_319 : decode cL_refuses 319 = .ok (.irem, 1) := by decide +kernel
theorem dL_refuses_320 : decode cL_refuses 320 = .ok (.iconst 0, 1) := by decide +kernel
theorem dL_refuses_321 : decode cL_refuses 321 = .ok (.iconst 0, 1) := by decide +kernel
theorem dL_refuses_322 : decode cL_refuses 322 = .ok (.invokestatic 160, 3) := by decide +kernel
theorem dL_refuses_325 : decode cL_refuses 325 = .ok (.ldc 18, 2) := by decide +kernel
theorem dL_refuses_327 : decode cL_refuses 327 = .ok (.if_icmp .ne 206, 3) := by decide +kernel
theorem dL_refuses_330 : decode cL_refuses 330 = .ok (.aload_n 0, 1) := by decide +kernel
theorem dL_refuses_331 : decode cL_refuses 331 = .ok (.bipush 10, 2) := by decide +kernel
theorem dL_refuses_333 : decode cL_refuses 333 = .ok (.iconst 3, 1) := by decide +kernel
theorem dL_refuses_334 : decode cL_refuses 334 = .ok (.iload_n 1, 1) := by decide +kernel
theorem dL_refuses_335 : decode cL_refuses 335 = .ok (.bipush 9, 2) := by decide +kernel
theorem dL_refuses_337 : decode cL_refuses 337 = .ok (.irem, 1) := by decide +kernel
theorem dL_refuses_338 : decode cL_refuses 338 = .ok (.iadd, 1) := by decide +kernel
theorem dL_refuses_339 : decode cL_refuses 339 = .ok (.iconst 5, 1) := by decide +kernel
theorem dL_refuses_340 : decode cL_refuses 340 = .ok (.iconst 0, 1) := by decide +kernel
theorem dL_refuses_341 : decode cL_refuses 341 = .ok (.invokestatic 160, 3) := by decide +kernel
theorem dL_refuses_344 : decode cL_refuses 344 = .ok (.ldc 18, 2) := by decide +kernel
theorem dL_refuses_346 : decode cL_refuses 346 = .ok (.if_icmp .ne 187, 3) := by decide +kernel
theorem dL_refuses_349 : decode cL_refuses 349 = .ok (.aload_n 0, 1) := by decide +kernel
theorem dL_refuses_350 : decode cL_refuses 350 = .ok (.bipush 12, 2) := by decide +kernel
theorem dL_refuses_352 : decode cL_refuses 352 = .ok (.iload_n 2, 1) := by decide +kernel
theorem dL_refuses_353 : decode cL_refuses 353 = .ok (.iconst 0, 1) := by decide +kernel
theorem dL_refuses_354 : decode cL_refuses 354 = .ok (.iconst 0, 1) := by decide +kernel
theorem dL_refuses_355 : decode cL_refuses 355 = .ok (.invokestatic 160, 3) := by decide +kernel
theorem dL_refuses_358 : decode cL_refuses 358 = .ok (.ldc 15, 2) := by decide +kernel
theorem dL_refuses_360 : decode cL_refuses 360 = .ok (.if_icmp .ne 173, 3) := by decide +kernel
theorem dL_refuses_363 : decode cL_refuses 363 = .ok (.aload_n 0, 1) := by decide +kernel
theorem dL_refuses_364 : decode cL_refuses 364 = .ok (.bipush 13, 2) := by decide +kernel
theorem dL_refuses_366 : decode cL_refuses 366 = .ok (.iconst 0, 1) := by decide +kernel
theorem dL_refuses_367 : decode cL_refuses 367 = .ok (.iload_n 3, 1) := by decide +kernel
theorem dL_refuses_368 : decode cL_refuses 368 = .ok (.iconst 0, 1) := by decide +kernel
theorem dL_refuses_369 : decode cL_refuses 369 = .ok (.invokestatic 160, 3) := by decide +kernel
theorem dL_refuses_372 : decode cL_refuses 372 = .ok (.ldc 15, 2) := by decide +kernel
theorem dL_refuses_374 : decode cL_refuses 374 = .ok (.if_icmp .ne 159, 3) := by decide +kernel
theorem dL_refuses_377 : decode cL_refuses 377 = .ok (.aload_n 0, 1) := by decide +kernel
theorem dL_refuses_378 : decode cL_refuses 378 = .ok (.bipush 14, 2) := by decide +kernel
theorem dL_refuses_380 : decode cL_refuses 380 = .ok (.iload 4, 2) := by decide +kernel
theorem dL_refuses_382 : decode cL_refuses 382 = .ok (.iconst 0, 1) := by decide +kernel
theorem dL_refuses_383 : decode cL_refuses 383 = .ok (.iconst 0, 1) := by decide +kernel
theorem dL_refuses_384 : decode cL_refuses 384 = .ok (.invokestatic 160, 3) := by decide +kernel
theorem dL_refuses_387 : decode cL_refuses 387 = .ok (.ldc 18, 2) := by decide +kernel
theorem dL_refuses_389 : decode cL_refuses 389 = .ok (.if_icmp .ne 144, 3) := by decide +kernel
theorem dL_refuses_392 : decode cL_refuses 392 = .ok (.aload_n 0, 1) := by decide +kernel
theorem dL_refuses_393 : decode cL_refuses 393 = .ok (.bipush 15, 2) := by decide +kernel
theorem dL_refuses_395 : decode cL_refuses 395 = .ok (.sipush 401, 3) := by decide +kernel
theorem dL_refuses_398 : decode cL_refuses 398 = .ok (.iload_n 1, 1) := by decide +kernel
theorem dL_refuses_399 : decode cL_refuses 399 = .ok (.bipush 9, 2) := by decide +kernel
theorem dL_refuses_401 : decode cL_refuses 401 = .ok (.irem, 1) := by decide +kernel
theorem dL_refuses_402 : decode cL_refuses 402 = .ok (.iadd, 1) := by decide +kernel
theorem dL_refuses_403 : decode cL_refuses 403 = .ok (.iconst 0, 1) := by decide +kernel
theorem dL_refuses_404 : decode cL_refuses 404 = .ok (.iconst 0, 1) := by decide +kernel
theorem dL_refuses_405 : decode cL_refuses 405 = .ok (.invokestatic 160, 3) := by decide +kernel
theorem dL_refuses_408 : decode cL_refuses 408 = .ok (.ldc 18, 2) := by decide +kernel
theorem dL_refuses_410 : decode cL_refuses 410 = .ok (.if_icmp .ne 123, 3) := by decide +kernel
theorem dL_refuses_413 : decode cL_refuses 413 = .ok (.aload_n 0, 1) := by decide +kernel
theorem dL_refuses_414 : decode cL_refuses 414 = .ok (.bipush 15, 2) := by decide +kernel
theorem dL_refuses_416 : decode cL_refuses 416 = .ok (.iconst 1, 1) := by decide +kernel
theorem dL_refuses_417 : decode cL_refuses 417 = .ok (.iconst 5, 1) := by decide +kernel
theorem dL_refuses_418 : decode cL_refuses 418 = .ok (.iload_n 1, 1) := by decide +kernel
theorem dL_refuses_419 : decode cL_refuses 419 = .ok (.bipush 9, 2) := by decide +kernel
theorem dL_refuses_421 : decode cL_refuses 421 = .ok (.irem, 1) := by decide +kernel
theorem dL_refuses_422 : decode cL_refuses 422 = .ok (.iadd, 1) := by decide +kernel
theorem dL_refuses_423 : decode cL_refuses 423 = .ok (.iconst 0, 1) := by decide +kernel
theorem dL_refuses_424 : decode cL_refuses 424 = .ok (.invokestatic 160, 3) := by decide +kernel
theorem dL_refuses_427 : decode cL_refuses 427 = .ok (.ldc 18, 2) := by decide +kernel
theorem dL_refuses_429 : decode cL_refuses 429 = .ok (.if_icmp .ne 104, 3) := by decide +kernel
theorem dL_refuses_432 : decode cL_refuses 432 = .ok (.aload_n 0, 1) := by decide +kernel
theorem dL_refuses_433 : decode cL_refuses 433 = .ok (.bipush 16, 2) := by decide +kernel
theorem dL_refuses_435 : decode cL_refuses 435 = .ok (.iload_n 2, 1) := by decide +kernel
theorem dL_refuses_436 : decode cL_refuses 436 = .ok (.iconst 0, 1) := by decide +kernel
theorem dL_refuses_437 : decode cL_refuses 437 = .ok (.iconst 0, 1) := by decide +kernel
theorem dL_refuses_438 : decode cL_refuses 438 = .ok (.invokestatic 160, 3) := by decide +kernel
theorem dL_refuses_441 : decode cL_refuses 441 = .ok (.ldc 15, 2) := by decide +kernel
theorem dL_refuses_443 : decode cL_refuses 443 = .ok (.if_icmp .ne 90, 3) := by decide +kernel
theorem dL_refuses_446 : decode cL_refuses 446 = .ok (.aload_n 0, 1) := by decide +kernel
theorem dL_refuses_447 : decode cL_refuses 447 = .ok (.bipush 17, 2) := by decide +kernel
theorem dL_refuses_449 : decode cL_refuses 449 = .ok (.iconst 2, 1) := by decide +kernel
theorem dL_refuses_450 : decode cL_refuses 450 = .ok (.iload_n 1, 1) := by decide +kernel
theorem dL_refuses_451 : decode cL_refuses 451 = .ok (.bipush 50, 2) := by decide +kernel
theorem dL_refuses_453 : decode cL_refuses 453 = .ok (.irem, 1) := by decide +kernel
theorem dL_refuses_454 : decode cL_refuses 454 = .ok (.iadd, 1) := by decide +kernel
theorem dL_refuses_455 : decode cL_refuses 455 = .ok (.iconst 0, 1) := by decide +kernel
theorem dL_refuses_456 : decode cL_refuses 456 = .ok (.iconst 0, 1) := by decide +kernel
theorem dL_refuses_457 : decode cL_refuses 457 = .ok (.invokestatic 160, 3) := by decide +kernel
theorem dL_refuses_460 : decode cL_refuses 460 = .ok (.ldc 15, 2) := by decide +kernel
theorem dL_refuses_462 : decode cL_refuses 462 = .ok (.if_icmp .ne 71, 3) := by decide +kernel
theorem dL_refuses_465 : decode cL_refuses 465 = .ok (.aload_n 0, 1) := by decide +kernel
theorem dL_refuses_466 : decode cL_refuses 466 = .ok (.bipush 18, 2) := by decide +kernel
theorem dL_refuses_468 : decode cL_refuses 468 = .ok (.iconst (-1), 1) := by decide +kernel
theorem dL_refuses_469 : decode cL_refuses 469 = .ok (.iload_n 1, 1) := by decide +kernel
theorem dL_refuses_470 : decode cL_refuses 470 = .ok (.bipush 9, 2) := by decide +kernel
theorem dL_refuses_472 : decode cL_refuses 472 = .ok (.irem, 1) := by decide +kernel
theorem dL_refuses_473 : decode cL_refuses 473 = .ok (.isub, 1) := by decide +kernel
theorem dL_refuses_474 : decode cL_refuses 474 = .ok (.iconst 0, 1) := by decide +kernel
theorem dL_refuses_475 : decode cL_refuses 475 = .ok (.iconst 0, 1) := by decide +kernel
theorem dL_refuses_476 : decode cL_refuses 476 = .ok (.invokestatic 160, 3) := by decide +kernel
theorem dL_refuses_479 : decode cL_refuses 479 = .ok (.ldc 15, 2) := by decide +kernel
theorem dL_refuses_481 : decode cL_refuses 481 = .ok (.if_icmp .ne 52, 3) := by decide +kernel
theorem dL_refuses_484 : decode cL_refuses 484 = .ok (.aload_n 0, 1) := by decide +kernel
theorem dL_refuses_485 : decode cL_refuses 485 = .ok (.iconst 0, 1) := by decide +kernel
theorem dL_refuses_486 : decode cL_refuses 486 = .ok (.lconst 0, 1) := by decide +kernel
theorem dL_refuses_487 : decode cL_refuses 487 = .ok (.invokestatic 172, 3) := by decide +kernel
theorem dL_refuses_490 : decode cL_refuses 490 = .ok (.ldc 18, 2) := by decide +kernel
theorem dL_refuses_492 : decode cL_refuses 492 = .ok (.if_icmp .ne 41, 3) := by decide +kernel
theorem dL_refuses_495 : decode cL_refuses 495 = .ok (.aload_n 0, 1) := by decide +kernel
theorem dL_refuses_496 : decode cL_refuses 496 = .ok (.iconst 1, 1) := by decide +kernel
theorem dL_refuses_497 : decode cL_refuses 497 = .ok (.ldc2_w 176, 3) := by decide +kernel
theorem dL_refuses_500 : decode cL_refuses 500 = .ok (.iload_n 1, 1) := by decide +kernel
theorem dL_refuses_501 : decode cL_refuses 501 = .ok (.i2l, 1) := by decide +kernel
theorem dL_refuses_502 : decode cL_refuses 502 = .ok (.ladd, 1) := by decide +kernel
theorem dL_refuses_503 : decode cL_refuses 503 = .ok (.invokestatic 172, 3) := by decide +kernel
theorem dL_refuses_506 : decode cL_refuses 506 = .ok (.ldc 18, 2) := by decide +kernel
theorem dL_refuses_508 : decode cL_refuses 508 = .ok (.if_icmp .ne 25, 3) := by decide +kernel
theorem dL_refuses_511 : decode cL_refuses 511 = .ok (.aload_n 0, 1) := by decide +kernel
theorem dL_refuses_512 : decode cL_refuses 512 = .ok (.iload_n 1, 1) := by decide +kernel
theorem dL_refuses_513 : decode cL_refuses 513 = .ok (.i2l, 1) := by decide +kernel
theorem dL_refuses_514 : decode cL_refuses 514 = .ok (.bipush 61, 2) := by decide +kernel
theorem dL_refuses_516 : decode cL_refuses 516 = .ok (.iload_n 1, 1) := by decide +kernel
theorem dL_refuses_517 : decode cL_refuses 517 = .ok (.bipush 9, 2) := by decide +kernel
theorem dL_refuses_519 : decode cL_refuses 519 = .ok (.irem, 1) := by decide +kernel
theorem dL_refuses_520 : decode cL_refuses 520 = .ok (.iadd, 1) := by decide +kernel
theorem dL_refuses_521 : decode cL_refuses 521 = .ok (.invokestatic 178, 3) := by decide +kernel
theorem dL_refuses_524 : decode cL_refuses 524 = .ok (.ldc 18, 2) := by decide +kernel
theorem dL_refuses_526 : decode cL_refuses 526 = .ok (.if_icmp .ne 7, 3) := by decide +kernel
theorem dL_refuses_529 : decode cL_refuses 529 = .ok (.iconst 1, 1) := by decide +kernel
theorem dL_refuses_530 : decode cL_refuses 530 = .ok (.goto 4, 3) := by decide +kernel
theorem dL_refuses_533 : decode cL_refuses 533 = .ok (.iconst 0, 1) := by decide +kernel
theorem dL_refuses_534 : decode cL_refuses 534 = .ok (.ireturn, 1) := by decide +kernel
theorem dL_holds_0 : decode cL_holds 0 = .ok (.aload_n 0, 1) := by decide +kernel
theorem dL_holds_1 : decode cL_holds 1 = .ok (.iconst 2, 1) := by decide +kernel
theorem dL_holds_2 : decode cL_holds 2 = .ok (.iconst 0, 1) := by decide +kernel
theorem dL_holds_3 : decode cL_holds 3 = .ok (.iconst 0, 1) := by decide +kernel
theorem dL_holds_4 : decode cL_holds 4 = .ok (.iconst 0, 1) := by decide +kernel
theorem dL_holds_5 : decode cL_holds 5 = .ok (.invokestatic 160, 3) := by decide +kernel
theorem dL_holds_8 : decode cL_holds 8 = .ok (.istore_n 1, 1) := by decide +kernel
theorem dL_holds_9 : decode cL_holds 9 = .ok (.iconst 0, 1) := by decide +kernel
theorem dL_holds_10 : decode cL_holds 10 = .ok (.istore_n 2, 1) := by decide +kernel
theorem dL_holds_11 : decode cL_holds 11 = .ok (.iconst 0, 1) := by decide +kernel
theorem dL_holds_12 : decode cL_holds 12 = .ok (.istore_n 3, 1) := by decide +kernel
theorem dL_holds_13 : decode cL_holds 13 = .ok (.iconst 0, 1) := by decide +kernel
theorem dL_holds_14 : decode cL_holds 14 = .ok (.istore 4, 2) := by decide +kernel
theorem dL_holds_16 : decode cL_holds 16 = .ok (.iload_n 1, 1) := by decide +kernel
theorem dL_holds_17 : decode cL_holds 17 = .ok (.iconst 3, 1) := by decide +kernel
theorem dL_holds_18 : decode cL_holds 18 = .ok (.if_icmp .gt 7, 3) := by decide +kernel
theorem dL_holds_21 : decode cL_holds 21 = .ok (.iconst 1, 1) := by decide +kernel
theorem dL_holds_22 : decode cL_holds 22 = .ok (.goto 4, 3) := by decide +kernel
theorem dL_holds_25 : decode cL_holds 25 = .ok (.iconst 0, 1) := by decide +kernel
theorem dL_holds_26 : decode cL_holds 26 = .ok (.istore 5, 2) := by decide +kernel
theorem dL_holds_28 : decode cL_holds 28 = .ok (.iconst 0, 1) := by decide +kernel
theorem dL_holds_29 : decode cL_holds 29 = .ok (.istore 6, 2) := by decide +kernel
theorem dL_holds_31 : decode cL_holds 31 = .ok (.iload 6, 2) := by decide +kernel
theorem dL_holds_33 : decode cL_holds 33 = .ok (.iload_n 1, 1) := by decide +kernel
theorem dL_holds_34 : decode cL_holds 34 = .ok (.if_icmp .ge 458, 3) := by decide +kernel
theorem dL_holds_37 : decode cL_holds 37 = .ok (.iload 5, 2) := by decide +kernel
theorem dL_holds_39 : decode cL_holds 39 = .ok (.ifCond .eq 453, 3) := by decide +kernel
theorem dL_holds_42 : decode cL_holds 42 = .ok (.aload_n 0, 1) := by decide +kernel
theorem dL_holds_43 : decode cL_holds 43 = .ok (.iconst 3, 1) := by decide +kernel
theorem dL_holds_44 : decode cL_holds 44 = .ok (.iload 6, 2) := by decide +kernel
theorem dL_holds_46 : decode cL_holds 46 = .ok (.iconst 0, 1) := by decide +kernel
theorem dL_holds_47 : decode cL_holds 47 = .ok (.iconst 0, 1) := by decide +kernel
theorem dL_holds_48 : decode cL_holds 48 = .ok (.invokestatic 160, 3) := by decide +kernel
theorem dL_holds_51 : decode cL_holds 51 = .ok (.istore 7, 2) := by decide +kernel
theorem dL_holds_53 : decode cL_holds 53 = .ok (.aload_n 0, 1) := by decide +kernel
theorem dL_holds_54 : decode cL_holds 54 = .ok (.iconst 3, 1) := by decide +kernel
theorem dL_holds_55 : decode cL_holds 55 = .ok (.iload 6, 2) := by decide +kernel
theorem dL_holds_57 : decode cL_holds 57 = .ok (.iconst 1, 1) := by decide +kernel
theorem dL_holds_58 : decode cL_holds 58 = .ok (.iconst 0, 1) := by decide +kernel
theorem dL_holds_59 : decode cL_holds 59 = .ok (.invokestatic 160, 3) := by decide +kernel
theorem dL_holds_62 : decode cL_holds 62 = .ok (.istore 8, 2) := by decide +kernel
theorem dL_holds_64 : decode cL_holds 64 = .ok (.sipush 1000, 3) := by decide +kernel
theorem dL_holds_67 : decode cL_holds 67 = .ok (.istore 9, 2) := by decide +kernel
theorem dL_holds_69 : decode cL_holds 69 = .ok (.iconst 0, 1) := by decide +kernel
theorem dL_holds_70 : decode cL_holds 70 = .ok (.istore 10, 2) := by decide +kernel
theorem dL_holds_72 : decode cL_holds 72 = .ok (.iload_n 2, 1) := by decide +kernel
theorem dL_holds_73 : decode cL_holds 73 = .ok (.iload 7, 2) := by decide +kernel
theorem dL_holds_75 : decode cL_holds 75 = .ok (.iadd, 1) := by decide +kernel
theorem dL_holds_76 : decode cL_holds 76 = .ok (.istore_n 2, 1) := by decide +kernel
theorem dL_holds_77 : decode cL_holds 77 = .ok (.iload_n 3, 1) := by decide +kernel
theorem dL_holds_78 : decode cL_holds 78 = .ok (.aload_n 0, 1) := by decide +kernel
theorem dL_holds_79 : decode cL_holds 79 = .ok (.iconst 3, 1) := by decide +kernel
theorem dL_holds_80 : decode cL_holds 80 = .ok (.iload 6, 2) := by decide +kernel
theorem dL_holds_82 : decode cL_holds 82 = .ok (.iconst 5, 1) := by decide +kernel
theorem dL_holds_83 : decode cL_holds 83 = .ok (.iconst 0, 1) := by decide +kernel
theorem dL_holds_84 : decode cL_holds 84 = .ok (.invokestatic 160, 3) := by decide +kernel
theorem dL_holds_87 : decode cL_holds 87 = .ok (.iadd, 1) := by decide +kernel
theorem dL_holds_88 : decode cL_holds 88 = .ok (.istore_n 3, 1) := by decide +kernel
theorem dL_holds_89 : decode cL_holds 89 = .ok (.iload 4, 2) := by decide +kernel
theorem dL_holds_91 : decode cL_holds 91 = .ok (.aload_n 0, 1) := by decide +kernel
theorem dL_holds_92 : decode cL_holds 92 = .ok (.iconst 3, 1) := by decide +kernel
theorem dL_holds_93 : decode cL_holds 93 = .ok (.iload 6, 2) := by decide +kernel
theorem dL_holds_95 : decode cL_holds 95 = .ok (.iconst 4, 1) := by decide +kernel
theorem dL_holds_96 : decode cL_holds 96 = .ok (.iconst 0, 1) := by decide +kernel
theorem dL_holds_97 : decode cL_holds 97 = .ok (.invokestatic 160, 3) := by decide +kernel
theorem dL_holds_100 : decode cL_holds 100 = .ok (.iadd, 1) := by decide +kernel
theorem dL_holds_101 : decode cL_holds 101 = .ok (.istore 4, 2) := by decide +kernel
theorem dL_holds_103 : decode cL_holds 103 = .ok (.iload 7, 2) := by decide +kernel
theorem dL_holds_105 : decode cL_holds 105 = .ok (.bipush 6, 2) := by decide +kernel
theorem dL_holds_107 : decode cL_holds 107 = .ok (.if_icmp .gt 58, 3) := by decide +kernel
theorem dL_holds_110 : decode cL_holds 110 = .ok (.iload 8, 2) := by decide +kernel
theorem dL_holds_112 : decode cL_holds 112 = .ok (.ifCond .lt 53, 3) := by decide +kernel
theorem dL_holds_115 : decode cL_holds 115 = .ok (.iload 8, 2) := by decide +kernel
theorem dL_holds_117 : decode cL_holds 117 = .ok (.iconst 4, 1) := by decide +kernel
theorem dL_holds_118 : decode cL_holds 118 = .ok (.if_icmp .gt 47, 3) := by decide +kernel
theorem dL_holds_121 : decode cL_holds 121 = .ok (.aload_n 0, 1) := by decide +kernel
theorem dL_holds_122 : decode cL_holds 122 = .ok (.iconst 3, 1) := by decide +kernel
theorem dL_holds_123 : decode cL_holds 123 = .ok (.iload 6, 2) := by decide +kernel
theorem dL_holds_125 : decode cL_holds 125 = .ok (.iconst 2, 1) := by decide +kernel
theorem dL_holds_126 : decode cL_holds 126 = .ok (.iconst 0, 1) := by decide +kernel
theorem dL_holds_127 : decode cL_holds 127 = .ok (.invokestatic 160, 3) := by decide +kernel
theorem dL_holds_130 : decode cL_holds 130 = .ok (.ifCond .lt 35, 3) := by decide +kernel
theorem dL_holds_133 : decode cL_holds 133 = .ok (.aload_n 0, 1) := by decide +kernel
theorem dL_holds_134 : decode cL_holds 134 = .ok (.iconst 3, 1) := by decide +kernel
theorem dL_holds_135 : decode cL_holds 135 = .ok (.iload 6, 2) := by decide +kernel
theorem dL_holds_137 : decode cL_holds 137 = .ok (.iconst 3, 1) := by decide +kernel
theorem dL_holds_138 : decode cL_holds 138 = .ok (.iconst 0, 1) := by decide +kernel
theorem dL_holds_139 : decode cL_holds 139 = .ok (.invokestatic 160, 3) := by decide +kernel
theorem dL_holds_142 : decode cL_holds 142 = .ok (.bipush 16, 2) := by decide +kernel
theorem dL_holds_144 : decode cL_holds 144 = .ok (.if_icmp .lt 21, 3) := by decide +kernel
theorem dL_holds_147 : decode cL_holds 147 = .ok (.aload_n 0, 1) := by decide +kernel
theorem dL_holds_148 : decode cL_holds 148 = .ok (.iconst 3, 1) := by decide +kernel
theorem dL_holds_149 : decode cL_holds 149 = .ok (.iload 6, 2) := by decide +kernel
theorem dL_holds_151 : decode cL_holds 151 = .ok (.iconst 3, 1) := by decide +kernel
theorem dL_holds_152 : decode cL_holds 152 = .ok (.iconst 0, 1) := by decide +kernel
theorem dL_holds_153 : decode cL_holds 153 = .ok (.invokestatic 160, 3) := by decide +kernel
theorem dL_holds_156 : decode cL_holds 156 = .ok (.bipush 96, 2) := by decide +kernel
theorem dL_holds_158 : decode cL_holds 158 = .ok (.if_icmp .gt 7, 3) := by decide +kernel
theorem dL_holds_161 : decode cL_holds 161 = .ok (.iconst 1, 1) := by decide +kernel
theorem dL_holds_162 : decode cL_holds 162 = .ok (.goto 4, 3) := by decide +kernel
theorem dL_holds_165 : decode cL_holds 165 = .ok (.iconst 0, 1) := by decide +kernel
theorem dL_holds_166 : decode cL_holds 166 = .ok (.istore 5, 2) := by decide +kernel
theorem dL_holds_168 : decode cL_holds 168 = .ok (.iconst 0, 1) := by decide +kernel
theorem dL_holds_169 : decode cL_holds 169 = .ok (.istore 11, 2) := by decide +kernel
theorem dL_holds_171 : decode cL_holds 171 = .ok (.iload 11, 2) := by decide +kernel
theorem dL_holds_173 : decode cL_holds 173 = .ok (.iload 7, 2) := by decide +kernel
theorem dL_holds_175 : decode cL_holds 175 = .ok (.if_icmp .ge 157, 3) := by decide +kernel
theorem dL_holds_178 : decode cL_holds 178 = .ok (.iload 5, 2) := by decide +kernel
theorem dL_holds_180 : decode cL_holds 180 = .ok (.ifCond .eq 152, 3) := by decide +kernel
theorem dL_holds_183 : decode cL_holds 183 = .ok (.aload_n 0, 1) := by decide +kernel
theorem dL_holds_184 : decode cL_holds 184 = .ok (.iconst 4, 1) := by decide +kernel
theorem dL_holds_185 : decode cL_holds 185 = .ok (.iload 6, 2) := by decide +kernel
theorem dL_holds_187 : decode cL_holds 187 = .ok (.iload 11, 2) := by decide +kernel
theorem dL_holds_189 : decode cL_holds 189 = .ok (.iconst 0, 1) := by decide +kernel
theorem dL_holds_190 : decode cL_holds 190 = .ok (.invokestatic 160, 3) := by decide +kernel
theorem dL_holds_193 : decode cL_holds 193 = .ok (.istore 12, 2) := by decide +kernel
theorem dL_holds_195 : decode cL_holds 195 = .ok (.aload_n 0, 1) := by decide +kernel
theorem dL_holds_196 : decode cL_holds 196 = .ok (.iconst 4, 1) := by decide +kernel
theorem dL_holds_197 : decode cL_holds 197 = .ok (.iload 6, 2) := by decide +kernel
theorem dL_holds_199 : decode cL_holds 199 = .ok (.iload 11, 2) := by decide +kernel
theorem dL_holds_201 : decode cL_holds 201 = .ok (.iconst 1, 1) := by decide +kernel
theorem dL_holds_202 : decode cL_holds 202 = .ok (.invokestatic 160, 3) := by decide +kernel
theorem dL_holds_205 : decode cL_holds 205 = .ok (.istore 13, 2) := by decide +kernel
theorem dL_holds_207 : decode cL_holds 207 = .ok (.aload_n 0, 1) := by decide +kernel
theorem dL_holds_208 : decode cL_holds 208 = .ok (.iconst 4, 1) := by decide +kernel
theorem dL_holds_209 : decode cL_holds 209 = .ok (.iload 6, 2) := by decide +kernel
theorem dL_holds_211 : decode cL_holds 211 = .ok (.iload 11, 2) := by decide +kernel
theorem dL_holds_213 : decode cL_holds 213 = .ok (.iconst 4, 1) := by decide +kernel
theorem dL_holds_214 : decode cL_holds 214 = .ok (.invokestatic 160, 3) := by decide +kernel
theorem dL_holds_217 : decode cL_holds 217 = .ok (.istore 14, 2) := by decide +kernel
theorem dL_holds_219 : decode cL_holds 219 = .ok (.iload 13, 2) := by decide +kernel
theorem dL_holds_221 : decode cL_holds 221 = .ok (.bipush 19, 2) := by decide +kernel
theorem dL_holds_223 : decode cL_holds 223 = .ok (.if_icmp .ne 12, 3) := by decide +kernel
theorem dL_holds_226 : decode cL_holds 226 = .ok (.iload 14, 2) := by decide +kernel
theorem dL_holds_228 : decode cL_holds 228 = .ok (.ifCond .ne 7, 3) := by decide +kernel
theorem dL_holds_231 : decode cL_holds 231 = .ok (.iconst 1, 1) := by decide +kernel
theorem dL_holds_232 : decode cL_holds 232 = .ok (.goto 5, 3) := by decide +kernel
theorem dL_holds_235 : decode cL_holds 235 = .ok (.iload 10, 2) := by decide +kernel
theorem dL_holds_237 : decode cL_holds 237 = .ok (.istore 10, 2) := by decide +kernel
theorem dL_holds_239 : decode cL_holds 239 = .ok (.iload 13, 2) := by decide +kernel
theorem dL_holds_241 : decode cL_holds 241 = .ok (.iload 9, 2) := by decide +kernel
theorem dL_holds_243 : decode cL_holds 243 = .ok (.if_icmp .ge 71, 3) := by decide +kernel
theorem dL_holds_246 : decode cL_holds 246 = .ok (.iload 13, 2) := by decide +kernel
theorem dL_holds_248 : decode cL_holds 248 = .ok (.iload 12, 2) := by decide +kernel
theorem dL_holds_250 : decode cL_holds 250 = .ok (.isub, 1) := by decide +kernel
theorem dL_holds_251 : decode cL_holds 251 = .ok (.iconst 1, 1) := by decide +kernel
theorem dL_holds_252 : decode cL_holds 252 = .ok (.iadd, 1) := by decide +kernel
theorem dL_holds_253 : decode cL_holds 253 = .ok (.bipush 39, 2) := by decide +kernel
theorem dL_holds_255 : decode cL_holds 255 = .ok (.if_icmp .gt 59, 3) := by decide +kernel
theorem dL_holds_258 : decode cL_holds 258 = .ok (.iload 12, 2) := by decide +kernel
theorem dL_holds_260 : decode cL_holds 260 = .ok (.iconst 2, 1) := by decide +kernel
theorem dL_holds_261 : decode cL_holds 261 = .ok (.if_icmp .lt 53, 3) := by decide +kernel
theorem dL_holds_264 : decode cL_holds 264 = .ok (.iload 12, 2) := by decide +kernel
theorem dL_holds_266 : decode cL_holds 266 = .ok (.bipush 12, 2) := by decide +kernel
theorem dL_holds_268 : decode cL_holds 268 = .ok (.if_icmp .gt 46, 3) := by decide +kernel
theorem dL_holds_271 : decode cL_holds 271 = .ok (.iload 14, 2) := by decide +kernel
theorem dL_holds_273 : decode cL_holds 273 = .ok (.ifCond .eq 10, 3) := by decide +kernel
theorem dL_holds_276 : decode cL_holds 276 = .ok (.iload 13, 2) := by decide +kernel
theorem dL_holds_278 : decode cL_holds 278 = .ok (.bipush 19, 2) := by decide +kernel
theorem dL_holds_280 : decode cL_holds 280 = .ok (.if_icmp .lt 34, 3) := by decide +kernel
theorem dL_holds_283 : decode cL_holds 283 = .ok (.iload 13, 2) := by decide +kernel
theorem dL_holds_285 : decode cL_holds 285 = .ok (.bipush 20, 2) := by decide +kernel
theorem dL_holds_287 : decode cL_holds 287 = .ok (.if_icmp .lt 23, 3) := by decide +kernel
theorem dL_holds_290 : decode cL_holds 290 = .ok (.iload 14, 2) := by decide +kernel
theorem dL_holds_292 : decode cL_holds 292 = .ok (.iconst 1, 1) := by decide +kernel
theorem dL_holds_293 : decode cL_holds 293 = .ok (.if_icmp .eq 17, 3) := by decide +kernel
theorem dL_holds_296 : decode cL_holds 296 = .ok (.aload_n 0, 1) := by decide +kernel
theorem dL_holds_297 : decode cL_holds 297 = .ok (.iconst 4, 1) := by decide +kernel
theorem dL_holds_298 : decode cL_holds 298 = .ok (.iload 6, 2) := by decide +kernel
theorem dL_holds_300 : decode cL_holds 300 = .ok (.iload 11, 2) := by decide +kernel
theorem dL_holds_302 : decode cL_holds 302 = .ok (.iconst 3, 1) := by decide +kernel
theorem dL_holds_303 : decode cL_holds 303 = .ok (.invokestatic 160, 3) := by decide +kernel
theorem dL_holds_306 : decode cL_holds 306 = .ok (.iconst 1, 1) := by decide +kernel
theorem dL_holds_307 : decode cL_holds 307 = .ok (.if_icmp .ne 7, 3) := by decide +kernel
theorem dL_holds_310 : decode cL_holds 310 = .ok (.iconst 1, 1) := by decide +kernel
theorem dL_holds_311 : decode cL_holds 311 = .ok (.goto 4, 3) := by decide +kernel
theorem dL_holds_314 : decode cL_holds 314 = .ok (.iconst 0, 1) := by decide +kernel
theorem dL_holds_315 : decode cL_holds 315 = .ok (.istore 5, 2) := by decide +kernel
theorem dL_holds_317 : decode cL_holds 317 = .ok (.iload 13, 2) := by decide +kernel
theorem dL_holds_319 : decode cL_holds 319 = .ok (.iload 12, 2) := by decide +kernel
theorem dL_holds_321 : decode cL_holds 321 = .ok (.isub, 1) := by decide +kernel
theorem dL_holds_322 : decode cL_holds 322 = .ok (.iconst 1, 1) := by decide +kernel
theorem dL_holds_323 : decode cL_holds 323 = .ok (.iadd, 1) := by decide +kernel
theorem dL_holds_324 : decode cL_holds 324 = .ok (.istore 9, 2) := by decide +kernel
theorem dL_holds_326 : decode cL_holds 326 = .ok (.iinc 11 1, 3) := by decide +kernel
theorem dL_holds_329 : decode cL_holds 329 = .ok (.goto (-158), 3) := by decide +kernel
theorem dL_holds_332 : decode cL_holds 332 = .ok (.aload_n 0, 1) := by decide +kernel
theorem dL_holds_333 : decode cL_holds 333 = .ok (.iconst 5, 1) := by decide +kernel
theorem dL_holds_334 : decode cL_holds 334 = .ok (.iload 6, 2) := by decide +kernel
theorem dL_holds_336 : decode cL_holds 336 = .ok (.iconst 0, 1) := by decide +kernel
theorem dL_holds_337 : decode cL_holds 337 = .ok (.iconst 0, 1) := by decide +kernel
theorem dL_holds_338 : decode cL_holds 338 = .ok (.invokestatic 160, 3) := by decide +kernel
theorem dL_holds_341 : decode cL_holds 341 = .ok (.istore 11, 2) := by decide +kernel
theorem dL_holds_343 : decode cL_holds 343 = .ok (.iload 5, 2) := by decide +kernel
theorem dL_holds_345 : decode cL_holds 345 = .ok (.ifCond .eq 138, 3) := by decide +kernel
theorem dL_holds_348 : decode cL_holds 348 = .ok (.aload_n 0, 1) := by decide +kernel
theorem dL_holds_349 : decode cL_holds 349 = .ok (.iconst 3, 1) := by decide +kernel
theorem dL_holds_350 : decode cL_holds 350 = .ok (.iload 6, 2) := by decide +kernel
theorem dL_holds_352 : decode cL_holds 352 = .ok (.bipush 6, 2) := by decide +kernel
theorem dL_holds_354 : decode cL_holds 354 = .ok (.iconst 0, 1) := by decide +kernel
theorem dL_holds_355 : decode cL_holds 355 = .ok (.invokestatic 160, 3) := by decide +kernel
theorem dL_holds_358 : decode cL_holds 358 = .ok (.ifCond .le 7, 3) := by decide +kernel
theorem dL_holds_361 : decode cL_holds 361 = .ok (.iconst 1, 1) := by decide +kernel
theorem dL_holds_362 : decode cL_holds 362 = .ok (.goto 4, 3) := by decide +kernel
theorem dL_holds_365 : decode cL_holds 365 = .ok (.iconst 0, 1) := by decide +kernel
theorem dL_holds_366 : decode cL_holds 366 = .ok (.iload 10, 2) := by decide +kernel
theorem dL_holds_368 : decode cL_holds 368 = .ok (.iconst 1, 1) := by decide +kernel
theorem dL_holds_369 : decode cL_holds 369 = .ok (.if_icmp .ne 7, 3) := by decide +kernel
theorem dL_holds_372 : decode cL_holds 372 = .ok (.iconst 1, 1) := by decide +kernel
theorem dL_holds_373 : decode cL_holds 373 = .ok (.goto 4, 3) := by decide +kernel
theorem dL_holds_376 : decode cL_holds 376 = .ok (.iconst 0, 1) := by decide +kernel
theorem dL_holds_377 : decode cL_holds 377 = .ok (.if_icmp .ne 106, 3) := by decide +kernel
theorem dL_holds_380 : decode cL_holds 380 = .ok (.iload 11, 2) := by decide +kernel
theorem dL_holds_382 : decode cL_holds 382 = .ok (.iconst 4, 1) := by decide +kernel
theorem dL_holds_383 : decode cL_holds 383 = .ok (.if_icmp .ne 7, 3) := by decide +kernel
theorem dL_holds_386 : decode cL_holds 386 = .ok (.iconst 1, 1) := by decide +kernel
theorem dL_holds_387 : decode cL_holds 387 = .ok (.goto 4, 3) := by decide +kernel
theorem dL_holds_390 : decode cL_holds 390 = .ok (.iconst 0, 1) := by decide +kernel
theorem dL_holds_391 : decode cL_holds 391 = .ok (.aload_n 0, 1) := by decide +kernel
theorem dL_holds_392 : decode cL_holds 392 = .ok (.iconst 3, 1) := by decide +kernel
theorem dL_holds_393 : decode cL_holds 393 = .ok (.iload 6, 2) := by decide +kernel
theorem dL_holds_395 : decode cL_holds 395 = .ok (.iconst 5, 1) := by decide +kernel
theorem dL_holds_396 : decode cL_holds 396 = .ok (.iconst 0, 1) := by decide +kernel
theorem dL_holds_397 : decode cL_holds 397 = .ok (.invokestatic 160, 3) := by decide +kernel
theorem dL_holds_400 : decode cL_holds 400 = .ok (.iconst 1, 1) := by decide +kernel
theorem dL_holds_401 : decode cL_holds 401 = .ok (.if_icmp .ne 7, 3) := by decide +kernel
theorem dL_holds_404 : decode cL_holds 404 = .ok (.iconst 1, 1) := by decide +kernel
theorem dL_holds_405 : decode cL_holds 405 = .ok (.goto 4, 3) := by decide +kernel
theorem dL_holds_408 : decode cL_holds 408 = .ok (.iconst 0, 1) := by decide +kernel
theorem dL_holds_409 : decode cL_holds 409 = .ok (.if_icmp .ne 74, 3) := by decide +kernel
theorem dL_holds_412 : decode cL_holds 412 = .ok (.iload 11, 2) := by decide +kernel
theorem dL_holds_414 : decode cL_holds 414 = .ok (.iconst 3, 1) := by decide +kernel
theorem dL_holds_415 : decode cL_holds 415 = .ok (.if_icmp .ne 15, 3) := by decide +kernel
theorem dL_holds_418 : decode cL_holds 418 = .ok (.aload_n 0, 1) := by decide +kernel
theorem dL_holds_419 : decode cL_holds 419 = .ok (.iconst 3, 1) := by decide +kernel
theorem dL_holds_420 : decode cL_holds 420 = .ok (.iload 6, 2) := by decide +kernel
theorem dL_holds_422 : decode cL_holds 422 = .ok (.iconst 2, 1) := by decide +kernel
theorem dL_holds_423 : decode cL_holds 423 = .ok (.iconst 0, 1) := by decide +kernel
theorem dL_holds_424 : decode cL_holds 424 = .ok (.invokestatic 160, 3) := by decide +kernel
theorem dL_holds_427 : decode cL_holds 427 = .ok (.ifCond .le 56, 3) := by decide +kernel
theorem dL_holds_430 : decode cL_holds 430 = .ok (.iload 11, 2) := by decide +kernel
theorem dL_holds_432 : decode cL_holds 432 = .ok (.iconst 2, 1) := by decide +kernel
theorem dL_holds_433 : decode cL_holds 433 = .ok (.if_icmp .ne 15, 3) := by decide +kernel
theorem dL_holds_436 : decode cL_holds 436 = .ok (.aload_n 0, 1) := by decide +kernel
theorem dL_holds_437 : decode cL_holds 437 = .ok (.iconst 3, 1) := by decide +kernel
theorem dL_holds_438 : decode cL_holds 438 = .ok (.iload 6, 2) := by decide +kernel
theorem dL_holds_440 : decode cL_holds 440 = .ok (.iconst 4, 1) := by decide +kernel
theorem dL_holds_441 : decode cL_holds 441 = .ok (.iconst 0, 1) := by decide +kernel
theorem dL_holds_442 : decode cL_holds 442 = .ok (.invokestatic 160, 3) := by decide +kernel
theorem dL_holds_445 : decode cL_holds 445 = .ok (.ifCond .ne 38, 3) := by decide +kernel
theorem dL_holds_448 : decode cL_holds 448 = .ok (.aload_n 0, 1) := by decide +kernel
theorem dL_holds_449 : decode cL_holds 449 = .ok (.bipush 12, 2) := by decide +kernel
theorem dL_holds_451 : decode cL_holds 451 = .ok (.iload 6, 2) := by decide +kernel
theorem dL_holds_453 : decode cL_holds 453 = .ok (.iconst 0, 1) := by decide +kernel
theorem dL_holds_454 : decode cL_holds 454 = .ok (.iconst 0, 1) := by decide +kernel
theorem dL_holds_455 : decode cL_holds 455 = .ok (.invokestatic 160, 3) := by decide +kernel
theorem dL_holds_458 : decode cL_holds 458 = .ok (.ifCond .ne 7, 3) := by decide +kernel
theorem dL_holds_461 : decode cL_holds 461 = .ok (.iconst 1, 1) := by decide +kernel
theorem dL_holds_462 : decode cL_holds 462 = .ok (.goto 4, 3) := by decide +kernel
theorem dL_holds_465 : decode cL_holds 465 = .ok (.iconst 0, 1) := by decide +kernel
theorem dL_holds_466 : decode cL_holds 466 = .ok (.iload 7, 2) := by decide +kernel
theorem dL_holds_468 : decode cL_holds 468 = .ok (.ifCond .ne 7, 3) := by decide +kernel
theorem dL_holds_471 : decode cL_holds 471 = .ok (.iconst 1, 1) := by decide +kernel
theorem dL_holds_472 : decode cL_holds 472 = .ok (.goto 4, 3) := by decide +kernel
theorem dL_holds_475 : decode cL_holds 475 = .ok (.iconst 0, 1) := by decide +kernel
theorem dL_holds_476 : decode cL_holds 476 = .ok (.if_icmp .ne 7, 3) := by decide +kernel
theorem dL_holds_479 : decode cL_holds 479 = .ok (.iconst 1, 1) := by decide +kernel
theorem dL_holds_480 : decode cL_holds 480 = .ok (.goto 4, 3) := by decide +kernel
theorem dL_holds_483 : decode cL_holds 483 = .ok (.iconst 0, 1) := by decide +kernel
theorem dL_holds_484 : decode cL_holds 484 = .ok (.istore 5, 2) := by decide +kernel
theorem dL_holds_486 : decode cL_holds 486 = .ok (.iinc 6 1, 3) := by decide +kernel
theorem dL_holds_489 : decode cL_holds 489 = .ok (.goto (-458), 3) := by decide +kernel
theorem dL_holds_492 : decode cL_holds 492 = .ok (.iload 5, 2) := by decide +kernel
theorem dL_holds_494 : decode cL_holds 494 = .ok (.ifCond .eq 87, 3) := by decide +kernel
theorem dL_holds_497 : decode cL_holds 497 = .ok (.aload_n 0, 1) := by decide +kernel
theorem dL_holds_498 : decode cL_holds 498 = .ok (.iconst 2, 1) := by decide +kernel
theorem dL_holds_499 : decode cL_holds 499 = .ok (.iconst 2, 1) := by decide +kernel
theorem dL_holds_500 : decode cL_holds 500 = .ok (.iconst 0, 1) := by decide +kernel
theorem dL_holds_501 : decode cL_holds 501 = .ok (.iconst 0, 1) := by decide +kernel
theorem dL_holds_502 : decode cL_holds 502 = .ok (.invokestatic 160, 3) := by decide +kernel
theorem dL_holds_505 : decode cL_holds 505 = .ok (.iload_n 2, 1) := by decide +kernel
theorem dL_holds_506 : decode cL_holds 506 = .ok (.if_icmp .ne 75, 3) := by decide +kernel
theorem dL_holds_509 : decode cL_holds 509 = .ok (.aload_n 0, 1) := by decide +kernel
theorem dL_holds_510 : decode cL_holds 510 = .ok (.iconst 2, 1) := by decide +kernel
theorem dL_holds_511 : decode cL_holds 511 = .ok (.bipush 7, 2) := by decide +kernel
theorem dL_holds_513 : decode cL_holds 513 = .ok (.iconst 0, 1) := by decide +kernel
theorem dL_holds_514 : decode cL_holds 514 = .ok (.iconst 0, 1) := by decide +kernel
theorem dL_holds_515 : decode cL_holds 515 = .ok (.invokestatic 160, 3) := by decide +kernel
theorem dL_holds_518 : decode cL_holds 518 = .ok (.iload_n 3, 1) := by decide +kernel
theorem dL_holds_519 : decode cL_holds 519 = .ok (.if_icmp .ne 62, 3) := by decide +kernel
theorem dL_holds_522 : decode cL_holds 522 = .ok (.aload_n 0, 1) := by decide +kernel
theorem dL_holds_523 : decode cL_holds 523 = .ok (.iconst 2, 1) := by decide +kernel
theorem dL_holds_524 : decode cL_holds 524 = .ok (.bipush 8, 2) := by decide +kernel
theorem dL_holds_526 : decode cL_holds 526 = .ok (.iconst 0, 1) := by decide +kernel
theorem dL_holds_527 : decode cL_holds 527 = .ok (.iconst 0, 1) := by decide +kernel
theorem dL_holds_528 : decode cL_holds 528 = .ok (.invokestatic 160, 3) := by decide +kernel
theorem dL_holds_531 : decode cL_holds 531 = .ok (.iload 4, 2) := by decide +kernel
theorem dL_holds_533 : decode cL_holds 533 = .ok (.if_icmp .ne 48, 3) := by decide +kernel
theorem dL_holds_536 : decode cL_holds 536 = .ok (.aload_n 0, 1) := by decide +kernel
theorem dL_holds_537 : decode cL_holds 537 = .ok (.iconst 2, 1) := by decide +kernel
theorem dL_holds_538 : decode cL_holds 538 = .ok (.iconst 3, 1) := by decide +kernel
theorem dL_holds_539 : decode cL_holds 539 = .ok (.iconst 0, 1) := by decide +kernel
theorem dL_holds_540 : decode cL_holds 540 = .ok (.iconst 0, 1) := by decide +kernel
theorem dL_holds_541 : decode cL_holds 541 = .ok (.invokestatic 160, 3) := by decide +kernel
theorem dL_holds_544 : decode cL_holds 544 = .ok (.aload_n 0, 1) := by decide +kernel
theorem dL_holds_545 : decode cL_holds 545 = .ok (.iconst 2, 1) := by decide +kernel
theorem dL_holds_546 : decode cL_holds 546 = .ok (.iconst 4, 1) := by decide +kernel
theorem dL_holds_547 : decode cL_holds 547 = .ok (.iconst 0, 1) := by decide +kernel
theorem dL_holds_548 : decode cL_holds 548 = .ok (.iconst 0, 1) := by decide +kernel
theorem dL_holds_549 : decode cL_holds 549 = .ok (.invokestatic 160, 3) := by decide +kernel
theorem dL_holds_552 : decode cL_holds 552 = .ok (.aload_n 0, 1) := by decide +kernel
theorem dL_holds_553 : decode cL_holds 553 = .ok (.iconst 2, 1) := by decide +kernel
theorem dL_holds_554 : decode cL_holds 554 = .ok (.iconst 5, 1) := by decide +kernel
theorem dL_holds_555 : decode cL_holds 555 = .ok (.iconst 0, 1) := by decide +kernel
theorem dL_holds_556 : decode cL_holds 556 = .ok (.iconst 0, 1) := by decide +kernel
theorem dL_holds_557 : decode cL_holds 557 = .ok (.invokestatic 160, 3) := by decide +kernel
theorem dL_holds_560 : decode cL_holds 560 = .ok (.iadd, 1) := by decide +kernel
theorem dL_holds_561 : decode cL_holds 561 = .ok (.if_icmp .gt 20, 3) := by decide +kernel
theorem dL_holds_564 : decode cL_holds 564 = .ok (.aload_n 0, 1) := by decide +kernel
theorem dL_holds_565 : decode cL_holds 565 = .ok (.iconst 2, 1) := by decide +kernel
theorem dL_holds_566 : decode cL_holds 566 = .ok (.bipush 6, 2) := by decide +kernel
theorem dL_holds_568 : decode cL_holds 568 = .ok (.iconst 0, 1) := by decide +kernel
theorem dL_holds_569 : decode cL_holds 569 = .ok (.iconst 0, 1) := by decide +kernel
theorem dL_holds_570 : decode cL_holds 570 = .ok (.invokestatic 160, 3) := by decide +kernel
theorem dL_holds_573 : decode cL_holds 573 = .ok (.iload_n 3, 1) := by decide +kernel
theorem dL_holds_574 : decode cL_holds 574 = .ok (.if_icmp .lt 7, 3) := by decide +kernel
theorem dL_holds_577 : decode cL_holds 577 = .ok (.iconst 1, 1) := by decide +kernel
theorem dL_holds_578 : decode cL_holds 578 = .ok (.goto 4, 3) := by decide +kernel
theorem dL_holds_581 : decode cL_holds 581 = .ok (.iconst 0, 1) := by decide +kernel
theorem dL_holds_582 : decode cL_holds 582 = .ok (.ireturn, 1) := by decide +kernel
theorem dL_act_0 : decode cL_act 0 = .ok (.aload_n 0, 1) := by decide +kernel
theorem dL_act_1 : decode cL_act 1 = .ok (.iconst 2, 1) := by decide +kernel
theorem dL_act_2 : decode cL_act 2 = .ok (.iconst 0, 1) := by decide +kernel
theorem dL_act_3 : decode cL_act 3 = .ok (.iconst 0, 1) := by decide +kernel
theorem dL_act_4 : decode cL_act 4 = .ok (.iconst 0, 1) := by decide +kernel
theorem dL_act_5 : decode cL_act 5 = .ok (.invokestatic 160, 3) := by decide +kernel
theorem dL_act_8 : decode cL_act 8 = .ok (.istore_n 2, 1) := by decide +kernel
theorem dL_act_9 : decode cL_act 9 = .ok (.iload_n 1, 1) := by decide +kernel
theorem dL_act_10 : decode cL_act 10 = .ok (.bipush 16, 2) := by decide +kernel
theorem dL_act_12 : decode cL_act 12 = .ok (.idiv, 1) := by decide +kernel
theorem dL_act_13 : decode cL_act 13 = .ok (.iload_n 2, 1) := by decide +kernel
theorem dL_act_14 : decode cL_act 14 = .ok (.irem, 1) := by decide +kernel
theorem dL_act_15 : decode cL_act 15 = .ok (.istore_n 3, 1) := by decide +kernel
theorem dL_act_16 : decode cL_act 16 = .ok (.iload_n 1, 1) := by decide +kernel
theorem dL_act_17 : decode cL_act 17 = .ok (.bipush 16, 2) := by decide +kernel
theorem dL_act_19 : decode cL_act 19 = .ok (.irem, 1) := by decide +kernel
theorem dL_act_20 : decode cL_act 20 = .ok (.tableswitch 219 0 11 #[64, 74, 74, 74, 74, 74, 119, 139, 149, 170, 189, 204], 64) := by decide +kernel
theorem dL_act_84 : decode cL_act 84 = .ok (.aload_n 0, 1) := by decide +kernel
theorem dL_act_85 : decode cL_act 85 = .ok (.bipush 7, 2) := by decide +kernel
theorem dL_act_87 : decode cL_act 87 = .ok (.iconst 0, 1) := by decide +kernel
theorem dL_act_88 : decode cL_act 88 = .ok (.iconst 0, 1) := by decide +kernel
theorem dL_act_89 : decode cL_act 89 = .ok (.iconst 0, 1) := by decide +kernel
theorem dL_act_90 : decode cL_act 90 = .ok (.invokestatic 160, 3) := by decide +kernel
theorem dL_act_93 : decode cL_act 93 = .ok (.ireturn, 1) := by decide +kernel
theorem dL_act_94 : decode cL_act 94 = .ok (.aload_n 0, 1) := by decide +kernel
theorem dL_act_95 : decode cL_act 95 = .ok (.iload_n 3, 1) := by decide +kernel
theorem dL_act_96 : decode cL_act 96 = .ok (.iconst 2, 1) := by decide +kernel
theorem dL_act_97 : decode cL_act 97 = .ok (.iload_n 1, 1) := by decide +kernel
theorem dL_act_98 : decode cL_act 98 = .ok (.bipush 48, 2) := by decide +kernel
theorem dL_act_100 : decode cL_act 100 = .ok (.idiv, 1) := by decide +kernel
theorem dL_act_101 : decode cL_act 101 = .ok (.bipush 11, 2) := by decide +kernel
theorem dL_act_103 : decode cL_act 103 = .ok (.irem, 1) := by decide +kernel
theorem dL_act_104 : decode cL_act 104 = .ok (.iadd, 1) := by decide +kernel
theorem dL_act_105 : decode cL_act 105 = .ok (.iload_n 1, 1) := by decide +kernel
theorem dL_act_106 : decode cL_act 106 = .ok (.sipush 528, 3) := by decide +kernel
theorem dL_act_109 : decode cL_act 109 = .ok (.idiv, 1) := by decide +kernel
theorem dL_act_110 : decode cL_act 110 = .ok (.iconst 4, 1) := by decide +kernel
theorem dL_act_111 : decode cL_act 111 = .ok (.irem, 1) := by decide +kernel
theorem dL_act_112 : decode cL_act 112 = .ok (.ifCond .ne 7, 3) := by decide +kernel
theorem dL_act_115 : decode cL_act 115 = .ok (.iconst 1, 1) := by decide +kernel
theorem dL_act_116 : decode cL_act 116 = .ok (.goto 4, 3) := by decide +kernel
theorem dL_act_119 : decode cL_act 119 = .ok (.iconst 0, 1) := by decide +kernel
theorem dL_act_120 : decode cL_act 120 = .ok (.iload_n 1, 1) := by decide +kernel
theorem dL_act_121 : decode cL_act 121 = .ok (.sipush 2112, 3) := by decide +kernel
theorem dL_act_124 : decode cL_act 124 = .ok (.idiv, 1) := by decide +kernel
theorem dL_act_125 : decode cL_act 125 = .ok (.iconst 3, 1) := by decide +kernel
theorem dL_act_126 : decode cL_act 126 = .ok (.irem, 1) := by decide +kernel
theorem dL_act_127 : decode cL_act 127 = .ok (.ifCond .ne 7, 3) := by decide +kernel
theorem dL_act_130 : decode cL_act 130 = .ok (.iconst 1, 1) := by decide +kernel
theorem dL_act_131 : decode cL_act 131 = .ok (.goto 4, 3) := by decide +kernel
theorem dL_act_134 : decode cL_act 134 = .ok (.iconst 0, 1) := by decide +kernel
theorem dL_act_135 : decode cL_act 135 = .ok (.invokestatic 164, 3) := by decide +kernel
theorem dL_act_138 : decode cL_act 138 = .ok (.ireturn, 1) := by decide +kernel
theorem dL_act_139 : decode cL_act 139 = .ok (.aload_n 0, 1) := by decide +kernel
theorem dL_act_140 : decode cL_act 140 = .ok (.iload_n 3, 1) := by decide +kernel
theorem dL_act_141 : decode cL_act 141 = .ok (.iload_n 1, 1) := by decide +kernel
theorem dL_act_142 : decode cL_act 142 = .ok (.bipush 48, 2) := by decide +kernel
theorem dL_act_144 : decode cL_act 144 = .ok (.idiv, 1) := by decide +kernel
theorem dL_act_145 : decode cL_act 145 = .ok (.iconst 3, 1) := by decide +kernel
theorem dL_act_146 : decode cL_act 146 = .ok (.irem, 1) := by decide +kernel
theorem dL_act_147 : decode cL_act 147 = .ok (.ifCond .le 7, 3) := by decide +kernel
theorem dL_act_150 : decode cL_act 150 = .ok (.iconst 1, 1) := by decide +kernel
theorem dL_act_151 : decode cL_act 151 = .ok (.goto 4, 3) := by decide +kernel
theorem dL_act_154 : decode cL_act 154 = .ok (.iconst 0, 1) := by decide +kernel
theorem dL_act_155 : decode cL_act 155 = .ok (.invokestatic 168, 3) := by decide +kernel
theorem dL_act_158 : decode cL_act 158 = .ok (.ireturn, 1) := by decide +kernel
theorem dL_act_159 : decode cL_act 159 = .ok (.aload_n 0, 1) := by decide +kernel
theorem dL_act_160 : decode cL_act 160 = .ok (.bipush 8, 2) := by decide +kernel
theorem dL_act_162 : decode cL_act 162 = .ok (.iload_n 3, 1) := by decide +kernel
theorem dL_act_163 : decode cL_act 163 = .ok (.iconst 0, 1) := by decide +kernel
theorem dL_act_164 : decode cL_act 164 = .ok (.iconst 0, 1) := by decide +kernel
theorem dL_act_165 : decode cL_act 165 = .ok (.invokestatic 160, 3) := by decide +kernel
theorem dL_act_168 : decode cL_act 168 = .ok (.ireturn, 1) := by decide +kernel
theorem dL_act_169 : decode cL_act 169 = .ok (.aload_n 0, 1) := by decide +kernel
theorem dL_act_170 : decode cL_act 170 = .ok (.bipush 10, 2) := by decide +kernel
theorem dL_act_172 : decode cL_act 172 = .ok (.iload_n 1, 1) := by decide +kernel
theorem dL_act_173 : decode cL_act 173 = .ok (.bipush 16, 2) := by decide +kernel
theorem dL_act_175 : decode cL_act 175 = .ok (.idiv, 1) := by decide +kernel
theorem dL_act_176 : decode cL_act 176 = .ok (.iconst 3, 1) := by decide +kernel
theorem dL_act_177 : decode cL_act 177 = .ok (.irem, 1) := by decide +kernel
theorem dL_act_178 : decode cL_act 178 = .ok (.iload_n 1, 1) := by decide +kernel
theorem dL_act_179 : decode cL_act 179 = .ok (.bipush 48, 2) := by decide +kernel
theorem dL_act_181 : decode cL_act 181 = .ok (.idiv, 1) := by decide +kernel
theorem dL_act_182 : decode cL_act 182 = .ok (.bipush 24, 2) := by decide +kernel
theorem dL_act_184 : decode cL_act 184 = .ok (.irem, 1) := by decide +kernel
theorem dL_act_185 : decode cL_act 185 = .ok (.iconst 0, 1) := by decide +kernel
theorem dL_act_186 : decode cL_act 186 = .ok (.invokestatic 160, 3) := by decide +kernel
theorem dL_act_189 : decode cL_act 189 = .ok (.ireturn, 1) := by decide +kernel
theorem dL_act_190 : decode cL_act 190 = .ok (.iload_n 2, 1) := by decide +kernel
theorem dL_act_191 : decode cL_act 191 = .ok (.iconst 2, 1) := by decide +kernel
theorem dL_act_192 : decode cL_act 192 = .ok (.if_icmp .ge 7, 3) := by decide +kernel
theorem dL_act_195 : decode cL_act 195 = .ok (.iconst (-1), 1) := by decide +kernel
theorem dL_act_196 : decode cL_act 196 = .ok (.goto 12, 3) := by decide +kernel
theorem dL_act_199 : decode cL_act 199 = .ok (.aload_n 0, 1) := by decide +kernel
theorem dL_act_200 : decode cL_act 200 = .ok (.bipush 11, 2) := by decide +kernel
theorem dL_act_202 : decode cL_act 202 = .ok (.iconst 0, 1) := by decide +kernel
theorem dL_act_203 : decode cL_act 203 = .ok (.iconst 0, 1) := by decide +kernel
theorem dL_act_204 : decode cL_act 204 = .ok (.iconst 0, 1) := by decide +kernel
theorem dL_act_205 : decode cL_act 205 = .ok (.invokestatic 160, 3) := by decide +kernel
theorem dL_act_208 : decode cL_act 208 = .ok (.ireturn, 1) := by decide +kernel
theorem dL_act_209 : decode cL_act 209 = .ok (.aload_n 0, 1) := by decide +kernel
theorem dL_act_210 : decode cL_act 210 = .ok (.bipush 17, 2) := by decide +kernel
theorem dL_act_212 : decode cL_act 212 = .ok (.iload_n 1, 1) := by decide +kernel
theorem dL_act_213 : decode cL_act 213 = .ok (.bipush 16, 2) := by decide +kernel
theorem dL_act_215 : decode cL_act 215 = .ok (.idiv, 1) := by decide +kernel
theorem dL_act_216 : decode cL_act 216 = .ok (.iconst 2, 1) := by decide +kernel
theorem dL_act_217 : decode cL_act 217 = .ok (.irem, 1) := by decide +kernel
theorem dL_act_218 : decode cL_act 218 = .ok (.iconst 0, 1) := by decide +kernel
theorem dL_act_219 : decode cL_act 219 = .ok (.iconst 0, 1) := by decide +kernel
theorem dL_act_220 : decode cL_act 220 = .ok (.invokestatic 160, 3) := by decide +kernel
theorem dL_act_223 : decode cL_act 223 = .ok (.ireturn, 1) := by decide +kernel
theorem dL_act_224 : decode cL_act 224 = .ok (.aload_n 0, 1) := by decide +kernel
theorem dL_act_225 : decode cL_act 225 = .ok (.bipush 18, 2) := by decide +kernel
theorem dL_act_227 : decode cL_act 227 = .ok (.iload_n 1, 1) := by decide +kernel
theorem dL_act_228 : decode cL_act 228 = .ok (.bipush 16, 2) := by decide +kernel
theorem dL_act_230 : decode cL_act 230 = .ok (.idiv, 1) := by decide +kernel
theorem dL_act_231 : decode cL_act 231 = .ok (.iconst 2, 1) := by decide +kernel
theorem dL_act_232 : decode cL_act 232 = .ok (.irem, 1) := by decide +kernel
theorem dL_act_233 : decode cL_act 233 = .ok (.iconst 0, 1) := by decide +kernel
theorem dL_act_234 : decode cL_act 234 = .ok (.iconst 0, 1) := by decide +kernel
theorem dL_act_235 : decode cL_act 235 = .ok (.invokestatic 160, 3) := by decide +kernel
theorem dL_act_238 : decode cL_act 238 = .ok (.ireturn, 1) := by decide +kernel
theorem dL_act_239 : decode cL_act 239 = .ok (.aload_n 0, 1) := by decide +kernel
theorem dL_act_240 : decode cL_act 240 = .ok (.bipush 9, 2) := by decide +kernel
theorem dL_act_242 : decode cL_act 242 = .ok (.iconst 1, 1) := by decide +kernel
theorem dL_act_243 : decode cL_act 243 = .ok (.iload_n 1, 1) := by decide +kernel
theorem dL_act_244 : decode cL_act 244 = .ok (.bipush 16, 2) := by decide +kernel
theorem dL_act_246 : decode cL_act 246 = .ok (.idiv, 1) := by decide +kernel
theorem dL_act_247 : decode cL_act 247 = .ok (.bipush 40, 2) := by decide +kernel
theorem dL_act_249 : decode cL_act 249 = .ok (.irem, 1) := by decide +kernel
theorem dL_act_250 : decode cL_act 250 = .ok (.iadd, 1) := by decide +kernel
theorem dL_act_251 : decode cL_act 251 = .ok (.iconst 0, 1) := by decide +kernel
theorem dL_act_252 : decode cL_act 252 = .ok (.iconst 0, 1) := by decide +kernel
theorem dL_act_253 : decode cL_act 253 = .ok (.invokestatic 160, 3) := by decide +kernel
theorem dL_act_256 : decode cL_act 256 = .ok (.ireturn, 1) := by decide +kernel
theorem dL_alike_0 : decode cL_alike 0 = .ok (.aload_n 0, 1) := by decide +kernel
theorem dL_alike_1 : decode cL_alike 1 = .ok (.iconst 2, 1) := by decide +kernel
theorem dL_alike_2 : decode cL_alike 2 = .ok (.iconst 0, 1) := by decide +kernel
theorem dL_alike_3 : decode cL_alike 3 = .ok (.iconst 0, 1) := by decide +kernel
theorem dL_alike_4 : decode cL_alike 4 = .ok (.iconst 0, 1) := by decide +kernel
theorem dL_alike_5 : decode cL_alike 5 = .ok (.invokestatic 160, 3) := by decide +kernel
theorem dL_alike_8 : decode cL_alike 8 = .ok (.istore_n 3, 1) := by decide +kernel
theorem dL_alike_9 : decode cL_alike 9 = .ok (.aload_n 0, 1) := by decide +kernel
theorem dL_alike_10 : decode cL_alike 10 = .ok (.iload_n 2, 1) := by decide +kernel
theorem dL_alike_11 : decode cL_alike 11 = .ok (.i2l, 1) := by decide +kernel
theorem dL_alike_12 : decode cL_alike 12 = .ok (.iconst 1, 1) := by decide +kernel
theorem dL_alike_13 : decode cL_alike 13 = .ok (.iload_n 2, 1) := by decide +kernel
theorem dL_alike_14 : decode cL_alike 14 = .ok (.bipush 20, 2) := by decide +kernel
theorem dL_alike_16 : decode cL_alike 16 = .ok (.irem, 1) := by decide +kernel
theorem dL_alike_17 : decode cL_alike 17 = .ok (.iadd, 1) := by decide +kernel
theorem dL_alike_18 : decode cL_alike 18 = .ok (.invokestatic 178, 3) := by decide +kernel
theorem dL_alike_21 : decode cL_alike 21 = .ok (.aload_n 1, 1) := by decide +kernel
theorem dL_alike_22 : decode cL_alike 22 = .ok (.iload_n 2, 1) := by decide +kernel
theorem dL_alike_23 : decode cL_alike 23 = .ok (.i2l, 1) := by decide +kernel
theorem dL_alike_24 : decode cL_alike 24 = .ok (.iconst 1, 1) := by decide +kernel
theorem dL_alike_25 : decode cL_alike 25 = .ok (.iload_n 2, 1) := by decide +kernel
theorem dL_alike_26 : decode cL_alike 26 = .ok (.bipush 20, 2) := by decide +kernel
theorem dL_alike_28 : decode cL_alike 28 = .ok (.irem, 1) := by decide +kernel
theorem dL_alike_29 : decode cL_alike 29 = .ok (.iadd, 1) := by decide +kernel
theorem dL_alike_30 : decode cL_alike 30 = .ok (.invokestatic 178, 3) := by decide +kernel
theorem dL_alike_33 : decode cL_alike 33 = .ok (.if_icmp .ne 7, 3) := by decide +kernel
theorem dL_alike_36 : decode cL_alike 36 = .ok (.iconst 1, 1) := by decide +kernel
theorem dL_alike_37 : decode cL_alike 37 = .ok (.goto 4, 3) := by decide +kernel
theorem dL_alike_40 : decode cL_alike 40 = .ok (.iconst 0, 1) := by decide +kernel
theorem dL_alike_41 : decode cL_alike 41 = .ok (.istore 4, 2) := by decide +kernel
theorem dL_alike_43 : decode cL_alike 43 = .ok (.iconst 0, 1) := by decide +kernel
theorem dL_alike_44 : decode cL_alike 44 = .ok (.istore 5, 2) := by decide +kernel
theorem dL_alike_46 : decode cL_alike 46 = .ok (.iload 5, 2) := by decide +kernel
theorem dL_alike_48 : decode cL_alike 48 = .ok (.bipush 10, 2) := by decide +kernel
theorem dL_alike_50 : decode cL_alike 50 = .ok (.if_icmp .ge 65, 3) := by decide +kernel
theorem dL_alike_53 : decode cL_alike 53 = .ok (.iload 4, 2) := by decide +kernel
theorem dL_alike_55 : decode cL_alike 55 = .ok (.ifCond .eq 60, 3) := by decide +kernel
theorem dL_alike_58 : decode cL_alike 58 = .ok (.aload_n 0, 1) := by decide +kernel
theorem dL_alike_59 : decode cL_alike 59 = .ok (.iconst 2, 1) := by decide +kernel
theorem dL_alike_60 : decode cL_alike 60 = .ok (.iload 5, 2) := by decide +kernel
theorem dL_alike_62 : decode cL_alike 62 = .ok (.iconst 0, 1) := by decide +kernel
theorem dL_alike_63 : decode cL_alike 63 = .ok (.iconst 0, 1) := by decide +kernel
theorem dL_alike_64 : decode cL_alike 64 = .ok (.invokestatic 160, 3) := by decide +kernel
theorem dL_alike_67 : decode cL_alike 67 = .ok (.aload_n 1, 1) := by decide +kernel
theorem dL_alike_68 : decode cL_alike 68 = .ok (.iconst 2, 1) := by decide +kernel
theorem dL_alike_69 : decode cL_alike 69 = .ok (.iload 5, 2) := by decide +kernel
theorem dL_alike_71 : decode cL_alike 71 = .ok (.iconst 0, 1) := by decide +kernel
theorem dL_alike_72 : decode cL_alike 72 = .ok (.iconst 0, 1) := by decide +kernel
theorem dL_alike_73 : decode cL_alike 73 = .ok (.invokestatic 160, 3) := by decide +kernel
theorem dL_alike_76 : decode cL_alike 76 = .ok (.if_icmp .ne 30, 3) := by decide +kernel
theorem dL_alike_79 : decode cL_alike 79 = .ok (.aload_n 0, 1) := by decide +kernel
theorem dL_alike_80 : decode cL_alike 80 = .ok (.bipush 6, 2) := by decide +kernel
theorem dL_alike_82 : decode cL_alike 82 = .ok (.iload 5, 2) := by decide +kernel
theorem dL_alike_84 : decode cL_alike 84 = .ok (.iconst 0, 1) := by decide +kernel
theorem dL_alike_85 : decode cL_alike 85 = .ok (.iconst 0, 1) := by decide +kernel
theorem dL_alike_86 : decode cL_alike 86 = .ok (.invokestatic 160, 3) := by decide +kernel
theorem dL_alike_89 : decode cL_alike 89 = .ok (.aload_n 1, 1) := by decide +kernel
theorem dL_alike_90 : decode cL_alike 90 = .ok (.bipush 6, 2) := by decide +kernel
theorem dL_alike_92 : decode cL_alike 92 = .ok (.iload 5, 2) := by decide +kernel
theorem dL_alike_94 : decode cL_alike 94 = .ok (.iconst 0, 1) := by decide +kernel
theorem dL_alike_95 : decode cL_alike 95 = .ok (.iconst 0, 1) := by decide +kernel
theorem dL_alike_96 : decode cL_alike 96 = .ok (.invokestatic 160, 3) := by decide +kernel
theorem dL_alike_99 : decode cL_alike 99 = .ok (.if_icmp .ne 7, 3) := by decide +kernel
theorem dL_alike_102 : decode cL_alike 102 = .ok (.iconst 1, 1) := by decide +kernel
theorem dL_alike_103 : decode cL_alike 103 = .ok (.goto 4, 3) := by decide +kernel
theorem dL_alike_106 : decode cL_alike 106 = .ok (.iconst 0, 1) := by decide +kernel
theorem dL_alike_107 : decode cL_alike 107 = .ok (.istore 4, 2) := by decide +kernel
theorem dL_alike_109 : decode cL_alike 109 = .ok (.iinc 5 1, 3) := by decide +kernel
theorem dL_alike_112 : decode cL_alike 112 = .ok (.goto (-66), 3) := by decide +kernel
theorem dL_alike_115 : decode cL_alike 115 = .ok (.iconst 0, 1) := by decide +kernel
theorem dL_alike_116 : decode cL_alike 116 = .ok (.istore 5, 2) := by decide +kernel
theorem dL_alike_118 : decode cL_alike 118 = .ok (.iload 5, 2) := by decide +kernel
theorem dL_alike_120 : decode cL_alike 120 = .ok (.iload_n 3, 1) := by decide +kernel
theorem dL_alike_121 : decode cL_alike 121 = .ok (.if_icmp .ge 115, 3) := by decide +kernel
theorem dL_alike_124 : decode cL_alike 124 = .ok (.iload 4, 2) := by decide +kernel
theorem dL_alike_126 : decode cL_alike 126 = .ok (.ifCond .eq 110, 3) := by decide +kernel
theorem dL_alike_129 : decode cL_alike 129 = .ok (.iconst 0, 1) := by decide +kernel
theorem dL_alike_130 : decode cL_alike 130 = .ok (.istore 6, 2) := by decide +kernel
theorem dL_alike_132 : decode cL_alike 132 = .ok (.iload 6, 2) := by decide +kernel
theorem dL_alike_134 : decode cL_alike 134 = .ok (.bipush 8, 2) := by decide +kernel
theorem dL_alike_136 : decode cL_alike 136 = .ok (.if_icmp .ge 94, 3) := by decide +kernel
theorem dL_alike_139 : decode cL_alike 139 = .ok (.iload 4, 2) := by decide +kernel
theorem dL_alike_141 : decode cL_alike 141 = .ok (.ifCond .eq 89, 3) := by decide +kernel
theorem dL_alike_144 : decode cL_alike 144 = .ok (.aload_n 0, 1) := by decide +kernel
theorem dL_alike_145 : decode cL_alike 145 = .ok (.iconst 3, 1) := by decide +kernel
theorem dL_alike_146 : decode cL_alike 146 = .ok (.iload 5, 2) := by decide +kernel
theorem dL_alike_148 : decode cL_alike 148 = .ok (.iload 6, 2) := by decide +kernel
theorem dL_alike_150 : decode cL_alike 150 = .ok (.iconst 0, 1) := by decide +kernel
theorem dL_alike_151 : decode cL_alike 151 = .ok (.invokestatic 160, 3) := by decide +kernel
theorem dL_alike_154 : decode cL_alike 154 = .ok (.aload_n 1, 1) := by decide +kernel
theorem dL_alike_155 : decode cL_alike 155 = .ok (.iconst 3, 1) := by decide +kernel
theorem dL_alike_156 : decode cL_alike 156 = .ok (.iload 5, 2) := by decide +kernel
theorem dL_alike_158 : decode cL_alike 158 = .ok (.iload 6, 2) := by decide +kernel
theorem dL_alike_160 : decode cL_alike 160 = .ok (.iconst 0, 1) := by decide +kernel
theorem dL_alike_161 : decode cL_alike 161 = .ok (.invokestatic 160, 3) := by decide +kernel
theorem dL_alike_164 : decode cL_alike 164 = .ok (.if_icmp .ne 57, 3) := by decide +kernel
theorem dL_alike_167 : decode cL_alike 167 = .ok (.aload_n 0, 1) := by decide +kernel
theorem dL_alike_168 : decode cL_alike 168 = .ok (.iconst 4, 1) := by decide +kernel
theorem dL_alike_169 : decode cL_alike 169 = .ok (.iload 5, 2) := by decide +kernel
theorem dL_alike_171 : decode cL_alike 171 = .ok (.iload 6, 2) := by decide +kernel
theorem dL_alike_173 : decode cL_alike 173 = .ok (.iconst 1, 1) := by decide +kernel
theorem dL_alike_174 : decode cL_alike 174 = .ok (.invokestatic 160, 3) := by decide +kernel
theorem dL_alike_177 : decode cL_alike 177 = .ok (.aload_n 1, 1) := by decide +kernel
theorem dL_alike_178 : decode cL_alike 178 = .ok (.iconst 4, 1) := by decide +kernel
theorem dL_alike_179 : decode cL_alike 179 = .ok (.iload 5, 2) := by decide +kernel
theorem dL_alike_181 : decode cL_alike 181 = .ok (.iload 6, 2) := by decide +kernel
theorem dL_alike_183 : decode cL_alike 183 = .ok (.iconst 1, 1) := by decide +kernel
theorem dL_alike_184 : decode cL_alike 184 = .ok (.invokestatic 160, 3) := by decide +kernel
theorem dL_alike_187 : decode cL_alike 187 = .ok (.if_icmp .ne 34, 3) := by decide +kernel
theorem dL_alike_190 : decode cL_alike 190 = .ok (.aload_n 0, 1) := by decide +kernel
theorem dL_alike_191 : decode cL_alike 191 = .ok (.iconst 4, 1) := by decide +kernel
theorem dL_alike_192 : decode cL_alike 192 = .ok (.iload 5, 2) := by decide +kernel
theorem dL_alike_194 : decode cL_alike 194 = .ok (.iload 6, 2) := by decide +kernel
theorem dL_alike_196 : decode cL_alike 196 = .ok (.iload_n 2, 1) := by decide +kernel
theorem dL_alike_197 : decode cL_alike 197 = .ok (.iconst 5, 1) := by decide +kernel
theorem dL_alike_198 : decode cL_alike 198 = .ok (.irem, 1) := by decide +kernel
theorem dL_alike_199 : decode cL_alike 199 = .ok (.invokestatic 160, 3) := by decide +kernel
theorem dL_alike_202 : decode cL_alike 202 = .ok (.aload_n 1, 1) := by decide +kernel
theorem dL_alike_203 : decode cL_alike 203 = .ok (.iconst 4, 1) := by decide +kernel
theorem dL_alike_204 : decode cL_alike 204 = .ok (.iload 5, 2) := by decide +kernel
theorem dL_alike_206 : decode cL_alike 206 = .ok (.iload 6, 2) := by decide +kernel
theorem dL_alike_208 : decode cL_alike 208 = .ok (.iload_n 2, 1) := by decide +kernel
theorem dL_alike_209 : decode cL_alike 209 = .ok (.iconst 5, 1) := by decide +kernel
theorem dL_alike_210 : decode cL_alike 210 = .ok (.irem, 1) := by decide +kernel
theorem dL_alike_211 : decode cL_alike 211 = .ok (.invokestatic 160, 3) := by decide +kernel
theorem dL_alike_214 : decode cL_alike 214 = .ok (.if_icmp .ne 7, 3) := by decide +kernel
theorem dL_alike_217 : decode cL_alike 217 = .ok (.iconst 1, 1) := by decide +kernel
theorem dL_alike_218 : decode cL_alike 218 = .ok (.goto 4, 3) := by decide +kernel
theorem dL_alike_221 : decode cL_alike 221 = .ok (.iconst 0, 1) := by decide +kernel
theorem dL_alike_222 : decode cL_alike 222 = .ok (.istore 4, 2) := by decide +kernel
theorem dL_alike_224 : decode cL_alike 224 = .ok (.iinc 6 1, 3) := by decide +kernel
theorem dL_alike_227 : decode cL_alike 227 = .ok (.goto (-95), 3) := by decide +kernel
theorem dL_alike_230 : decode cL_alike 230 = .ok (.iinc 5 1, 3) := by decide +kernel
theorem dL_alike_233 : decode cL_alike 233 = .ok (.goto (-115), 3) := by decide +kernel
theorem dL_alike_236 : decode cL_alike 236 = .ok (.iload 4, 2) := by decide +kernel
theorem dL_alike_238 : decode cL_alike 238 = .ok (.ireturn, 1) := by decide +kernel
theorem dL_law_0 : decode cL_law 0 = .ok (.new 8, 3) := by decide +kernel
theorem dL_law_3 : decode cL_law 3 = .ok (.dup, 1) := by decide +kernel
theorem dL_law_4 : decode cL_law 4 = .ok (.invokespecial 182, 3) := by decide +kernel
theorem dL_law_7 : decode cL_law 7 = .ok (.astore_n 1, 1) := by decide +kernel
theorem dL_law_8 : decode cL_law 8 = .ok (.new 8, 3) := by decide +kernel
theorem dL_law_11 : decode cL_law 11 = .ok (.dup, 1) := by decide +kernel
theorem dL_law_12 : decode cL_law 12 = .ok (.invokespecial 182, 3) := by decide +kernel
theorem dL_law_15 : decode cL_law 15 = .ok (.astore_n 2, 1) := by decide +kernel
theorem dL_law_16 : decode cL_law 16 = .ok (.aload_n 1, 1) := by decide +kernel
theorem dL_law_17 : decode cL_law 17 = .ok (.bipush 7, 2) := by decide +kernel
theorem dL_law_19 : decode cL_law 19 = .ok (.iconst 0, 1) := by decide +kernel
theorem dL_law_20 : decode cL_law 20 = .ok (.iconst 0, 1) := by decide +kernel
theorem dL_law_21 : decode cL_law 21 = .ok (.iconst 0, 1) := by decide +kernel
theorem dL_law_22 : decode cL_law 22 = .ok (.invokestatic 160, 3) := by decide +kernel
theorem dL_law_25 : decode cL_law 25 = .ok (.ifCond .ne 19, 3) := by decide +kernel
theorem dL_law_28 : decode cL_law 28 = .ok (.aload_n 2, 1) := by decide +kernel
theorem dL_law_29 : decode cL_law 29 = .ok (.bipush 7, 2) := by decide +kernel
theorem dL_law_31 : decode cL_law 31 = .ok (.iconst 0, 1) := by decide +kernel
theorem dL_law_32 : decode cL_law 32 = .ok (.iconst 0, 1) := by decide +kernel
theorem dL_law_33 : decode cL_law 33 = .ok (.iconst 0, 1) := by decide +kernel
theorem dL_law_34 : decode cL_law 34 = .ok (.invokestatic 160, 3) := by decide +kernel
theorem dL_law_37 : decode cL_law 37 = .ok (.ifCond .ne 7, 3) := by decide +kernel
theorem dL_law_40 : decode cL_law 40 = .ok (.iconst 1, 1) := by decide +kernel
theorem dL_law_41 : decode cL_law 41 = .ok (.goto 4, 3) := by decide +kernel
theorem dL_law_44 : decode cL_law 44 = .ok (.iconst 0, 1) := by decide +kernel
theorem dL_law_45 : decode cL_law 45 = .ok (.istore_n 3, 1) := by decide +kernel
theorem dL_law_46 : decode cL_law 46 = .ok (.bipush 8, 2) := by decide +kernel
theorem dL_law_48 : decode cL_law 48 = .ok (.aload_n 0, 1) := by decide +kernel
theorem dL_law_49 : decode cL_law 49 = .ok (.iconst 0, 1) := by decide +kernel
theorem dL_law_50 : decode cL_law 50 = .ok (.invokestatic 183, 3) := by decide +kernel
theorem dL_law_53 : decode cL_law 53 = .ok (.bipush 17, 2) := by decide +kernel
theorem dL_law_55 : decode cL_law 55 = .ok (.irem, 1) := by decide +kernel
theorem dL_law_56 : decode cL_law 56 = .ok (.iadd, 1) := by decide +kernel
theorem dL_law_57 : decode cL_law 57 = .ok (.istore 4, 2) := by decide +kernel
theorem dL_law_59 : decode cL_law 59 = .ok (.iconst 0, 1) := by decide +kernel
theorem dL_law_60 : decode cL_law 60 = .ok (.istore 5, 2) := by decide +kernel
theorem dL_law_62 : decode cL_law 62 = .ok (.iload 5, 2) := by decide +kernel
theorem dL_law_64 : decode cL_law 64 = .ok (.iload 4, 2) := by decide +kernel
theorem dL_law_66 : decode cL_law 66 = .ok (.if_icmp .ge 448, 3) := by decide +kernel
theorem dL_law_69 : decode cL_law 69 = .ok (.iload_n 3, 1) := by decide +kernel
theorem dL_law_70 : decode cL_law 70 = .ok (.ifCond .eq 444, 3) := by decide +kernel
theorem dL_law_73 : decode cL_law 73 = .ok (.aload_n 0, 1) := by decide +kernel
theorem dL_law_74 : decode cL_law 74 = .ok (.iconst 1, 1) := by decide +kernel
theorem dL_law_75 : decode cL_law 75 = .ok (.iload 5, 2) := by decide +kernel
theorem dL_law_77 : decode cL_law 77 = .ok (.iadd, 1) := by decide +kernel
theorem dL_law_78 : decode cL_law 78 = .ok (.invokestatic 183, 3) := by decide +kernel
theorem dL_law_81 : decode cL_law 81 = .ok (.istore 6, 2) := by decide +kernel
theorem dL_law_83 : decode cL_law 83 = .ok (.aload_n 1, 1) := by decide +kernel
theorem dL_law_84 : decode cL_law 84 = .ok (.iload 6, 2) := by decide +kernel
theorem dL_law_86 : decode cL_law 86 = .ok (.invokestatic 187, 3) := by decide +kernel
theorem dL_law_89 : decode cL_law 89 = .ok (.istore 7, 2) := by decide +kernel
theorem dL_law_91 : decode cL_law 91 = .ok (.aload_n 2, 1) := by decide +kernel
theorem dL_law_92 : decode cL_law 92 = .ok (.iload 6, 2) := by decide +kernel
theorem dL_law_94 : decode cL_law 94 = .ok (.ldc 190, 2) := by decide +kernel
theorem dL_law_96 : decode cL_law 96 = .ok (.irem, 1) := by decide +kernel
theorem dL_law_97 : decode cL_law 97 = .ok (.invokestatic 191, 3) := by decide +kernel
theorem dL_law_100 : decode cL_law 100 = .ok (.ifCond .eq 69, 3) := by decide +kernel
theorem dL_law_103 : decode cL_law 103 = .ok (.aload_n 2, 1) := by decide +kernel
theorem dL_law_104 : decode cL_law 104 = .ok (.iload 6, 2) := by decide +kernel
theorem dL_law_106 : decode cL_law 106 = .ok (.invokestatic 187, 3) := by decide +kernel
theorem dL_law_109 : decode cL_law 109 = .ok (.iload 7, 2) := by decide +kernel
theorem dL_law_111 : decode cL_law 111 = .ok (.if_icmp .ne 58, 3) := by decide +kernel
theorem dL_law_114 : decode cL_law 114 = .ok (.aload_n 2, 1) := by decide +kernel
theorem dL_law_115 : decode cL_law 115 = .ok (.iload 6, 2) := by decide +kernel
theorem dL_law_117 : decode cL_law 117 = .ok (.sipush 1000, 3) := by decide +kernel
theorem dL_law_120 : decode cL_law 120 = .ok (.irem, 1) := by decide +kernel
theorem dL_law_121 : decode cL_law 121 = .ok (.invokestatic 191, 3) := by decide +kernel
theorem dL_law_124 : decode cL_law 124 = .ok (.ifCond .eq 45, 3) := by decide +kernel
theorem dL_law_127 : decode cL_law 127 = .ok (.aload_n 1, 1) := by decide +kernel
theorem dL_law_128 : decode cL_law 128 = .ok (.aload_n 2, 1) := by decide +kernel
theorem dL_law_129 : decode cL_law 129 = .ok (.iload 6, 2) := by decide +kernel
theorem dL_law_131 : decode cL_law 131 = .ok (.sipush 5000, 3) := by decide +kernel
theorem dL_law_134 : decode cL_law 134 = .ok (.irem, 1) := by decide +kernel
theorem dL_law_135 : decode cL_law 135 = .ok (.invokestatic 195, 3) := by decide +kernel
theorem dL_law_138 : decode cL_law 138 = .ok (.ifCond .eq 31, 3) := by decide +kernel
theorem dL_law_141 : decode cL_law 141 = .ok (.iload 5, 2) := by decide +kernel
theorem dL_law_143 : decode cL_law 143 = .ok (.iconst 2, 1) := by decide +kernel
theorem dL_law_144 : decode cL_law 144 = .ok (.irem, 1) := by decide +kernel
theorem dL_law_145 : decode cL_law 145 = .ok (.ifCond .ne 13, 3) := by decide +kernel
theorem dL_law_148 : decode cL_law 148 = .ok (.aload_n 1, 1) := by decide +kernel
theorem dL_law_149 : decode cL_law 149 = .ok (.invokestatic 199, 3) := by decide +kernel
theorem dL_law_152 : decode cL_law 152 = .ok (.ifCond .eq 17, 3) := by decide +kernel
theorem dL_law_155 : decode cL_law 155 = .ok (.goto 10, 3) := by decide +kernel
theorem dL_law_158 : decode cL_law 158 = .ok (.aload_n 2, 1) := by decide +kernel
theorem dL_law_159 : decode cL_law 159 = .ok (.invokestatic 199, 3) := by decide +kernel
theorem dL_law_162 : decode cL_law 162 = .ok (.ifCond .eq 7, 3) := by decide +kernel
theorem dL_law_165 : decode cL_law 165 = .ok (.iconst 1, 1) := by decide +kernel
theorem dL_law_166 : decode cL_law 166 = .ok (.goto 4, 3) := by decide +kernel
theorem dL_law_169 : decode cL_law 169 = .ok (.iconst 0, 1) := by decide +kernel
theorem dL_law_170 : decode cL_law 170 = .ok (.istore_n 3, 1) := by decide +kernel
theorem dL_law_171 : decode cL_law 171 = .ok (.aload_n 1, 1) := by decide +kernel
theorem dL_law_172 : decode cL_law 172 = .ok (.iconst 2, 1) := by decide +kernel
theorem dL_law_173 : decode cL_law 173 = .ok (.iconst 0, 1) := by decide +kernel
theorem dL_law_174 : decode cL_law 174 = .ok (.iconst 0, 1) := by decide +kernel
theorem dL_law_175 : decode cL_law 175 = .ok (.iconst 0, 1) := by decide +kernel
theorem dL_law_176 : decode cL_law 176 = .ok (.invokestatic 160, 3) := by decide +kernel
theorem dL_law_179 : decode cL_law 179 = .ok (.istore 8, 2) := by decide +kernel
theorem dL_law_181 : decode cL_law 181 = .ok (.iload 6, 2) := by decide +kernel
theorem dL_law_183 : decode cL_law 183 = .ok (.bipush 7, 2) := by decide +kernel
theorem dL_law_185 : decode cL_law 185 = .ok (.idiv, 1) := by decide +kernel
theorem dL_law_186 : decode cL_law 186 = .ok (.iload 8, 2) := by decide +kernel
theorem dL_law_188 : decode cL_law 188 = .ok (.irem, 1) := by decide +kernel
theorem dL_law_189 : decode cL_law 189 = .ok (.istore 9, 2) := by decide +kernel
theorem dL_law_191 : decode cL_law 191 = .ok (.iconst 1, 1) := by decide +kernel
theorem dL_law_192 : decode cL_law 192 = .ok (.iload 6, 2) := by decide +kernel
theorem dL_law_194 : decode cL_law 194 = .ok (.bipush 21, 2) := by decide +kernel
theorem dL_law_196 : decode cL_law 196 = .ok (.idiv, 1) := by decide +kernel
theorem dL_law_197 : decode cL_law 197 = .ok (.bipush 60, 2) := by decide +kernel
theorem dL_law_199 : decode cL_law 199 = .ok (.irem, 1) := by decide +kernel
theorem dL_law_200 : decode cL_law 200 = .ok (.iadd, 1) := by decide +kernel
theorem dL_law_201 : decode cL_law 201 = .ok (.istore 10, 2) := by decide +kernel
theorem dL_law_203 : decode cL_law 203 = .ok (.aload_n 1, 1) := by decide +kernel
theorem dL_law_204 : decode cL_law 204 = .ok (.bipush 15, 2) := by decide +kernel
theorem dL_law_206 : decode cL_law 206 = .ok (.iload 10, 2) := by decide +kernel
theorem dL_law_208 : decode cL_law 208 = .ok (.iconst 0, 1) := by decide +kernel
theorem dL_law_209 : decode cL_law 209 = .ok (.iconst 0, 1) := by decide +kernel
theorem dL_law_210 : decode cL_law 210 = .ok (.invokestatic 160, 3) := by decide +kernel
theorem dL_law_213 : decode cL_law 213 = .ok (.istore 11, 2) := by decide +kernel
theorem dL_law_215 : decode cL_law 215 = .ok (.aload_n 1, 1) := by decide +kernel
theorem dL_law_216 : decode cL_law 216 = .ok (.bipush 15, 2) := by decide +kernel
theorem dL_law_218 : decode cL_law 218 = .ok (.iload 10, 2) := by decide +kernel
theorem dL_law_220 : decode cL_law 220 = .ok (.iconst 1, 1) := by decide +kernel
theorem dL_law_221 : decode cL_law 221 = .ok (.iconst 0, 1) := by decide +kernel
theorem dL_law_222 : decode cL_law 222 = .ok (.invokestatic 160, 3) := by decide +kernel
theorem dL_law_225 : decode cL_law 225 = .ok (.istore 12, 2) := by decide +kernel
theorem dL_law_227 : decode cL_law 227 = .ok (.aload_n 1, 1) := by decide +kernel
theorem dL_law_228 : decode cL_law 228 = .ok (.bipush 15, 2) := by decide +kernel
theorem dL_law_230 : decode cL_law 230 = .ok (.iload 10, 2) := by decide +kernel
theorem dL_law_232 : decode cL_law 232 = .ok (.iconst 2, 1) := by decide +kernel
theorem dL_law_233 : decode cL_law 233 = .ok (.iconst 0, 1) := by decide +kernel
theorem dL_law_234 : decode cL_law 234 = .ok (.invokestatic 160, 3) := by decide +kernel
theorem dL_law_237 : decode cL_law 237 = .ok (.istore 13, 2) := by decide +kernel
theorem dL_law_239 : decode cL_law 239 = .ok (.aload_n 1, 1) := by decide +kernel
theorem dL_law_240 : decode cL_law 240 = .ok (.bipush 15, 2) := by decide +kernel
theorem dL_law_242 : decode cL_law 242 = .ok (.iload 10, 2) := by decide +kernel
theorem dL_law_244 : decode cL_law 244 = .ok (.iconst 3, 1) := by decide +kernel
theorem dL_law_245 : decode cL_law 245 = .ok (.iconst 0, 1) := by decide +kernel
theorem dL_law_246 : decode cL_law 246 = .ok (.invokestatic 160, 3) := by decide +kernel
theorem dL_law_249 : decode cL_law 249 = .ok (.istore 14, 2) := by decide +kernel
theorem dL_law_251 : decode cL_law 251 = .ok (.aload_n 1, 1) := by decide +kernel
theorem dL_law_252 : decode cL_law 252 = .ok (.bipush 12, 2) := by decide +kernel
theorem dL_law_254 : decode cL_law 254 = .ok (.iload 9, 2) := by decide +kernel
theorem dL_law_256 : decode cL_law 256 = .ok (.iconst 0, 1) := by decide +kernel
theorem dL_law_257 : decode cL_law 257 = .ok (.iconst 0, 1) := by decide +kernel
theorem dL_law_258 : decode cL_law 258 = .ok (.invokestatic 160, 3) := by decide +kernel
theorem dL_law_261 : decode cL_law 261 = .ok (.istore 15, 2) := by decide +kernel
theorem dL_law_263 : decode cL_law 263 = .ok (.aload_n 1, 1) := by decide +kernel
theorem dL_law_264 : decode cL_law 264 = .ok (.iconst 2, 1) := by decide +kernel
theorem dL_law_265 : decode cL_law 265 = .ok (.iconst 4, 1) := by decide +kernel
theorem dL_law_266 : decode cL_law 266 = .ok (.iconst 0, 1) := by decide +kernel
theorem dL_law_267 : decode cL_law 267 = .ok (.iconst 0, 1) := by decide +kernel
theorem dL_law_268 : decode cL_law 268 = .ok (.invokestatic 160, 3) := by decide +kernel
theorem dL_law_271 : decode cL_law 271 = .ok (.istore 16, 2) := by decide +kernel
theorem dL_law_273 : decode cL_law 273 = .ok (.aload_n 1, 1) := by decide +kernel
theorem dL_law_274 : decode cL_law 274 = .ok (.iconst 2, 1) := by decide +kernel
theorem dL_law_275 : decode cL_law 275 = .ok (.iconst 5, 1) := by decide +kernel
theorem dL_law_276 : decode cL_law 276 = .ok (.iconst 0, 1) := by decide +kernel
theorem dL_law_277 : decode cL_law 277 = .ok (.iconst 0, 1) := by decide +kernel
theorem dL_law_278 : decode cL_law 278 = .ok (.invokestatic 160, 3) := by decide +kernel
theorem dL_law_281 : decode cL_law 281 = .ok (.istore 17, 2) := by decide +kernel
theorem dL_law_283 : decode cL_law 283 = .ok (.aload_n 1, 1) := by decide +kernel
theorem dL_law_284 : decode cL_law 284 = .ok (.iconst 2, 1) := by decide +kernel
theorem dL_law_285 : decode cL_law 285 = .ok (.bipush 6, 2) := by decide +kernel
theorem dL_law_287 : decode cL_law 287 = .ok (.iconst 0, 1) := by decide +kernel
theorem dL_law_288 : decode cL_law 288 = .ok (.iconst 0, 1) := by decide +kernel
theorem dL_law_289 : decode cL_law 289 = .ok (.invokestatic 160, 3) := by decide +kernel
theorem dL_law_292 : decode cL_law 292 = .ok (.istore 18, 2) := by decide +kernel
theorem dL_law_294 : decode cL_law 294 = .ok (.aload_n 1, 1) := by decide +kernel
theorem dL_law_295 : decode cL_law 295 = .ok (.iconst 2, 1) := by decide +kernel
theorem dL_law_296 : decode cL_law 296 = .ok (.iconst 1, 1) := by decide +kernel
theorem dL_law_297 : decode cL_law 297 = .ok (.iconst 0, 1) := by decide +kernel
theorem dL_law_298 : decode cL_law 298 = .ok (.iconst 0, 1) := by decide +kernel
theorem dL_law_299 : decode cL_law 299 = .ok (.invokestatic 160, 3) := by decide +kernel
theorem dL_law_302 : decode cL_law 302 = .ok (.istore 19, 2) := by decide +kernel
theorem dL_law_304 : decode cL_law 304 = .ok (.iload_n 3, 1) := by decide +kernel
theorem dL_law_305 : decode cL_law 305 = .ok (.ifCond .eq 201, 3) := by decide +kernel
theorem dL_law_308 : decode cL_law 308 = .ok (.aload_n 1, 1) := by decide +kernel
theorem dL_law_309 : decode cL_law 309 = .ok (.bipush 9, 2) := by decide +kernel
theorem dL_law_311 : decode cL_law 311 = .ok (.iload 10, 2) := by decide +kernel
theorem dL_law_313 : decode cL_law 313 = .ok (.iconst 0, 1) := by decide +kernel
theorem dL_law_314 : decode cL_law 314 = .ok (.iconst 0, 1) := by decide +kernel
theorem dL_law_315 : decode cL_law 315 = .ok (.invokestatic 160, 3) := by decide +kernel
theorem dL_law_318 : decode cL_law 318 = .ok (.iload 11, 2) := by decide +kernel
theorem dL_law_320 : decode cL_law 320 = .ok (.iload 12, 2) := by decide +kernel
theorem dL_law_322 : decode cL_law 322 = .ok (.iadd, 1) := by decide +kernel
theorem dL_law_323 : decode cL_law 323 = .ok (.if_icmp .ne 183, 3) := by decide +kernel
theorem dL_law_326 : decode cL_law 326 = .ok (.aload_n 2, 1) := by decide +kernel
theorem dL_law_327 : decode cL_law 327 = .ok (.bipush 9, 2) := by decide +kernel
theorem dL_law_329 : decode cL_law 329 = .ok (.iload 10, 2) := by decide +kernel
theorem dL_law_331 : decode cL_law 331 = .ok (.iconst 0, 1) := by decide +kernel
theorem dL_law_332 : decode cL_law 332 = .ok (.iconst 0, 1) := by decide +kernel
theorem dL_law_333 : decode cL_law 333 = .ok (.invokestatic 160, 3) := by decide +kernel
theorem dL_law_336 : decode cL_law 336 = .ok (.iload 11, 2) := by decide +kernel
theorem dL_law_338 : decode cL_law 338 = .ok (.iload 12, 2) := by decide +kernel
theorem dL_law_340 : decode cL_law 340 = .ok (.iadd, 1) := by decide +kernel
theorem dL_law_341 : decode cL_law 341 = .ok (.if_icmp .ne 165, 3) := by decide +kernel
theorem dL_law_344 : decode cL_law 344 = .ok (.aload_n 1, 1) := by decide +kernel
theorem dL_law_345 : decode cL_law 345 = .ok (.iconst 2, 1) := by decide +kernel
theorem dL_law_346 : decode cL_law 346 = .ok (.iconst 4, 1) := by decide +kernel
theorem dL_law_347 : decode cL_law 347 = .ok (.iconst 0, 1) := by decide +kernel
theorem dL_law_348 : decode cL_law 348 = .ok (.iconst 0, 1) := by decide +kernel
theorem dL_law_349 : decode cL_law 349 = .ok (.invokestatic 160, 3) := by decide +kernel
theorem dL_law_352 : decode cL_law 352 = .ok (.iload 16, 2) := by decide +kernel
theorem dL_law_354 : decode cL_law 354 = .ok (.iload 11, 2) := by decide +kernel
theorem dL_law_356 : decode cL_law 356 = .ok (.iadd, 1) := by decide +kernel
theorem dL_law_357 : decode cL_law 357 = .ok (.if_icmp .ne 149, 3) := by decide +kernel
theorem dL_law_360 : decode cL_law 360 = .ok (.aload_n 1, 1) := by decide +kernel
theorem dL_law_361 : decode cL_law 361 = .ok (.iconst 2, 1) := by decide +kernel
theorem dL_law_362 : decode cL_law 362 = .ok (.iconst 5, 1) := by decide +kernel
theorem dL_law_363 : decode cL_law 363 = .ok (.iconst 0, 1) := by decide +kernel
theorem dL_law_364 : decode cL_law 364 = .ok (.iconst 0, 1) := by decide +kernel
theorem dL_law_365 : decode cL_law 365 = .ok (.invokestatic 160, 3) := by decide +kernel
theorem dL_law_368 : decode cL_law 368 = .ok (.iload 17, 2) := by decide +kernel
theorem dL_law_370 : decode cL_law 370 = .ok (.iload 12, 2) := by decide +kernel
theorem dL_law_372 : decode cL_law 372 = .ok (.iadd, 1) := by decide +kernel
theorem dL_law_373 : decode cL_law 373 = .ok (.if_icmp .ne 133, 3) := by decide +kernel
theorem dL_law_376 : decode cL_law 376 = .ok (.aload_n 1, 1) := by decide +kernel
theorem dL_law_377 : decode cL_law 377 = .ok (.iconst 2, 1) := by decide +kernel
theorem dL_law_378 : decode cL_law 378 = .ok (.bipush 6, 2) := by decide +kernel
theorem dL_law_380 : decode cL_law 380 = .ok (.iconst 0, 1) := by decide +kernel
theorem dL_law_381 : decode cL_law 381 = .ok (.iconst 0, 1) := by decide +kernel
theorem dL_law_382 : decode cL_law 382 = .ok (.invokestatic 160, 3) := by decide +kernel
theorem dL_law_385 : decode cL_law 385 = .ok (.iload 18, 2) := by decide +kernel
theorem dL_law_387 : decode cL_law 387 = .ok (.iload 13, 2) := by decide +kernel
theorem dL_law_389 : decode cL_law 389 = .ok (.iadd, 1) := by decide +kernel
theorem dL_law_390 : decode cL_law 390 = .ok (.if_icmp .ne 116, 3) := by decide +kernel
theorem dL_law_393 : decode cL_law 393 = .ok (.aload_n 1, 1) := by decide +kernel
theorem dL_law_394 : decode cL_law 394 = .ok (.iconst 2, 1) := by decide +kernel
theorem dL_law_395 : decode cL_law 395 = .ok (.iconst 2, 1) := by decide +kernel
theorem dL_law_396 : decode cL_law 396 = .ok (.iconst 0, 1) := by decide +kernel
theorem dL_law_397 : decode cL_law 397 = .ok (.iconst 0, 1) := by decide +kernel
theorem dL_law_398 : decode cL_law 398 = .ok (.invokestatic 160, 3) := by decide +kernel
theorem dL_law_401 : decode cL_law 401 = .ok (.iload 14, 2) := by decide +kernel
theorem dL_law_403 : decode cL_law 403 = .ok (.if_icmp .ne 103, 3) := by decide +kernel
theorem dL_law_406 : decode cL_law 406 = .ok (.aload_n 1, 1) := by decide +kernel
theorem dL_law_407 : decode cL_law 407 = .ok (.iconst 3, 1) := by decide +kernel
theorem dL_law_408 : decode cL_law 408 = .ok (.iload 9, 2) := by decide +kernel
theorem dL_law_410 : decode cL_law 410 = .ok (.iconst 0, 1) := by decide +kernel
theorem dL_law_411 : decode cL_law 411 = .ok (.iconst 0, 1) := by decide +kernel
theorem dL_law_412 : decode cL_law 412 = .ok (.invokestatic 160, 3) := by decide +kernel
theorem dL_law_415 : decode cL_law 415 = .ok (.ifCond .ne 7, 3) := by decide +kernel
theorem dL_law_418 : decode cL_law 418 = .ok (.iconst 1, 1) := by decide +kernel
theorem dL_law_419 : decode cL_law 419 = .ok (.goto 4, 3) := by decide +kernel
theorem dL_law_422 : decode cL_law 422 = .ok (.iconst 0, 1) := by decide +kernel
theorem dL_law_423 : decode cL_law 423 = .ok (.iload 15, 2) := by decide +kernel
theorem dL_law_425 : decode cL_law 425 = .ok (.iconst (-1), 1) := by decide +kernel
theorem dL_law_426 : decode cL_law 426 = .ok (.if_icmp .eq 14, 3) := by decide +kernel
theorem dL_law_429 : decode cL_law 429 = .ok (.iload 15, 2) := by decide +kernel
theorem dL_law_431 : decode cL_law 431 = .ok (.iload 10, 2) := by decide +kernel
theorem dL_law_433 : decode cL_law 433 = .ok (.if_icmp .gt 7, 3) := by decide +kernel
theorem dL_law_436 : decode cL_law 436 = .ok (.iconst 1, 1) := by decide +kernel
theorem dL_law_437 : decode cL_law 437 = .ok (.goto 4, 3) := by decide +kernel
theorem dL_law_440 : decode cL_law 440 = .ok (.iconst 0, 1) := by decide +kernel
theorem dL_law_441 : decode cL_law 441 = .ok (.if_icmp .ne 65, 3) := by decide +kernel
theorem dL_law_444 : decode cL_law 444 = .ok (.aload_n 1, 1) := by decide +kernel
theorem dL_law_445 : decode cL_law 445 = .ok (.bipush 11, 2) := by decide +kernel
theorem dL_law_447 : decode cL_law 447 = .ok (.iconst 0, 1) := by decide +kernel
theorem dL_law_448 : decode cL_law 448 = .ok (.iconst 0, 1) := by decide +kernel
theorem dL_law_449 : decode cL_law 449 = .ok (.iconst 0, 1) := by decide +kernel
theorem dL_law_450 : decode cL_law 450 = .ok (.invokestatic 160, 3) := by decide +kernel
theorem dL_law_453 : decode cL_law 453 = .ok (.invokestatic 203, 3) := by decide +kernel
theorem dL_law_456 : decode cL_law 456 = .ok (.ifCond .ne 50, 3) := by decide +kernel
theorem dL_law_459 : decode cL_law 459 = .ok (.aload_n 2, 1) := by decide +kernel
theorem dL_law_460 : decode cL_law 460 = .ok (.bipush 11, 2) := by decide +kernel
theorem dL_law_462 : decode cL_law 462 = .ok (.iconst 0, 1) := by decide +kernel
theorem dL_law_463 : decode cL_law 463 = .ok (.iconst 0, 1) := by decide +kernel
theorem dL_law_464 : decode cL_law 464 = .ok (.iconst 0, 1) := by decide +kernel
theorem dL_law_465 : decode cL_law 465 = .ok (.invokestatic 160, 3) := by decide +kernel
theorem dL_law_468 : decode cL_law 468 = .ok (.invokestatic 203, 3) := by decide +kernel
theorem dL_law_471 : decode cL_law 471 = .ok (.ifCond .ne 35, 3) := by decide +kernel
theorem dL_law_474 : decode cL_law 474 = .ok (.aload_n 1, 1) := by decide +kernel
theorem dL_law_475 : decode cL_law 475 = .ok (.iconst 2, 1) := by decide +kernel
theorem dL_law_476 : decode cL_law 476 = .ok (.iconst 1, 1) := by decide +kernel
theorem dL_law_477 : decode cL_law 477 = .ok (.iconst 0, 1) := by decide +kernel
theorem dL_law_478 : decode cL_law 478 = .ok (.iconst 0, 1) := by decide +kernel
theorem dL_law_479 : decode cL_law 479 = .ok (.invokestatic 160, 3) := by decide +kernel
theorem dL_law_482 : decode cL_law 482 = .ok (.iload 19, 2) := by decide +kernel
theorem dL_law_484 : decode cL_law 484 = .ok (.if_icmp .ne 22, 3) := by decide +kernel
theorem dL_law_487 : decode cL_law 487 = .ok (.aload_n 1, 1) := by decide +kernel
theorem dL_law_488 : decode cL_law 488 = .ok (.aload_n 2, 1) := by decide +kernel
theorem dL_law_489 : decode cL_law 489 = .ok (.iload 9, 2) := by decide +kernel
theorem dL_law_491 : decode cL_law 491 = .ok (.iload 6, 2) := by decide +kernel
theorem dL_law_493 : decode cL_law 493 = .ok (.bipush 9, 2) := by decide +kernel
theorem dL_law_495 : decode cL_law 495 = .ok (.idiv, 1) := by decide +kernel
theorem dL_law_496 : decode cL_law 496 = .ok (.invokestatic 207, 3) := by decide +kernel
theorem dL_law_499 : decode cL_law 499 = .ok (.ifCond .eq 7, 3) := by decide +kernel
theorem dL_law_502 : decode cL_law 502 = .ok (.iconst 1, 1) := by decide +kernel
theorem dL_law_503 : decode cL_law 503 = .ok (.goto 4, 3) := by decide +kernel
theorem dL_law_506 : decode cL_law 506 = .ok (.iconst 0, 1) := by decide +kernel
theorem dL_law_507 : decode cL_law 507 = .ok (.istore_n 3, 1) := by decide +kernel
theorem dL_law_508 : decode cL_law 508 = .ok (.iinc 5 1, 3) := by decide +kernel
theorem dL_law_511 : decode cL_law 511 = .ok (.goto (-449), 3) := by decide +kernel
theorem dL_law_514 : decode cL_law 514 = .ok (.iload_n 3, 1) := by decide +kernel
theorem dL_law_515 : decode cL_law 515 = .ok (.ireturn, 1) := by decide +kernel
theorem dL_breaks_0 : decode cL_breaks 0 = .ok (.aload_n 0, 1) := by decide +kernel
theorem dL_breaks_1 : decode cL_breaks 1 = .ok (.iload_n 1, 1) := by decide +kernel
theorem dL_breaks_2 : decode cL_breaks 2 = .ok (.iconst 1, 1) := by decide +kernel
theorem dL_breaks_3 : decode cL_breaks 3 = .ok (.invokestatic 168, 3) := by decide +kernel
theorem dL_breaks_6 : decode cL_breaks 6 = .ok (.ifCond .le 52, 3) := by decide +kernel
theorem dL_breaks_9 : decode cL_breaks 9 = .ok (.iload_n 2, 1) := by decide +kernel
theorem dL_breaks_10 : decode cL_breaks 10 = .ok (.iconst 1, 1) := by decide +kernel
theorem dL_breaks_11 : decode cL_breaks 11 = .ok (.if_icmp .eq 43, 3) := by decide +kernel
theorem dL_breaks_14 : decode cL_breaks 14 = .ok (.aload_n 0, 1) := by decide +kernel
theorem dL_breaks_15 : decode cL_breaks 15 = .ok (.bipush 9, 2) := by decide +kernel
theorem dL_breaks_17 : decode cL_breaks 17 = .ok (.iload_n 2, 1) := by decide +kernel
theorem dL_breaks_18 : decode cL_breaks 18 = .ok (.iconst 1, 1) := by decide +kernel
theorem dL_breaks_19 : decode cL_breaks 19 = .ok (.isub, 1) := by decide +kernel
theorem dL_breaks_20 : decode cL_breaks 20 = .ok (.iconst 0, 1) := by decide +kernel
theorem dL_breaks_21 : decode cL_breaks 21 = .ok (.iconst 0, 1) := by decide +kernel
theorem dL_breaks_22 : decode cL_breaks 22 = .ok (.invokestatic 160, 3) := by decide +kernel
theorem dL_breaks_25 : decode cL_breaks 25 = .ok (.ifCond .lt 33, 3) := by decide +kernel
theorem dL_breaks_28 : decode cL_breaks 28 = .ok (.aload_n 0, 1) := by decide +kernel
theorem dL_breaks_29 : decode cL_breaks 29 = .ok (.iconst 3, 1) := by decide +kernel
theorem dL_breaks_30 : decode cL_breaks 30 = .ok (.iload_n 1, 1) := by decide +kernel
theorem dL_breaks_31 : decode cL_breaks 31 = .ok (.iconst 5, 1) := by decide +kernel
theorem dL_breaks_32 : decode cL_breaks 32 = .ok (.iconst 0, 1) := by decide +kernel
theorem dL_breaks_33 : decode cL_breaks 33 = .ok (.invokestatic 160, 3) := by decide +kernel
theorem dL_breaks_36 : decode cL_breaks 36 = .ok (.ifCond .ne 22, 3) := by decide +kernel
theorem dL_breaks_39 : decode cL_breaks 39 = .ok (.aload_n 0, 1) := by decide +kernel
theorem dL_breaks_40 : decode cL_breaks 40 = .ok (.bipush 11, 2) := by decide +kernel
theorem dL_breaks_42 : decode cL_breaks 42 = .ok (.iconst 0, 1) := by decide +kernel
theorem dL_breaks_43 : decode cL_breaks 43 = .ok (.iconst 0, 1) := by decide +kernel
theorem dL_breaks_44 : decode cL_breaks 44 = .ok (.iconst 0, 1) := by decide +kernel
theorem dL_breaks_45 : decode cL_breaks 45 = .ok (.invokestatic 160, 3) := by decide +kernel
theorem dL_breaks_48 : decode cL_breaks 48 = .ok (.invokestatic 203, 3) := by decide +kernel
theorem dL_breaks_51 : decode cL_breaks 51 = .ok (.ifCond .ne 7, 3) := by decide +kernel
theorem dL_breaks_54 : decode cL_breaks 54 = .ok (.iconst 1, 1) := by decide +kernel
theorem dL_breaks_55 : decode cL_breaks 55 = .ok (.goto 4, 3) := by decide +kernel
theorem dL_breaks_58 : decode cL_breaks 58 = .ok (.iconst 0, 1) := by decide +kernel
theorem dL_breaks_59 : decode cL_breaks 59 = .ok (.istore_n 3, 1) := by decide +kernel
theorem dL_breaks_60 : decode cL_breaks 60 = .ok (.iload_n 3, 1) := by decide +kernel
theorem dL_breaks_61 : decode cL_breaks 61 = .ok (.ifCond .eq 61, 3) := by decide +kernel
theorem dL_breaks_64 : decode cL_breaks 64 = .ok (.aload_n 0, 1) := by decide +kernel
theorem dL_breaks_65 : decode cL_breaks 65 = .ok (.bipush 9, 2) := by decide +kernel
theorem dL_breaks_67 : decode cL_breaks 67 = .ok (.iload_n 2, 1) := by decide +kernel
theorem dL_breaks_68 : decode cL_breaks 68 = .ok (.iconst 0, 1) := by decide +kernel
theorem dL_breaks_69 : decode cL_breaks 69 = .ok (.iconst 0, 1) := by decide +kernel
theorem dL_breaks_70 : decode cL_breaks 70 = .ok (.invokestatic 160, 3) := by decide +kernel
theorem dL_breaks_73 : decode cL_breaks 73 = .ok (.ifCond .lt 49, 3) := by decide +kernel
theorem dL_breaks_76 : decode cL_breaks 76 = .ok (.aload_n 0, 1) := by decide +kernel
theorem dL_breaks_77 : decode cL_breaks 77 = .ok (.iconst 3, 1) := by decide +kernel
theorem dL_breaks_78 : decode cL_breaks 78 = .ok (.iload_n 1, 1) := by decide +kernel
theorem dL_breaks_79 : decode cL_breaks 79 = .ok (.iconst 5, 1) := by decide +kernel
theorem dL_breaks_80 : decode cL_breaks 80 = .ok (.iconst 0, 1) := by decide +kernel
theorem dL_breaks_81 : decode cL_breaks 81 = .ok (.invokestatic 160, 3) := by decide +kernel
theorem dL_breaks_84 : decode cL_breaks 84 = .ok (.iconst 1, 1) := by decide +kernel
theorem dL_breaks_85 : decode cL_breaks 85 = .ok (.if_icmp .ne 37, 3) := by decide +kernel
theorem dL_breaks_88 : decode cL_breaks 88 = .ok (.aload_n 0, 1) := by decide +kernel
theorem dL_breaks_89 : decode cL_breaks 89 = .ok (.bipush 11, 2) := by decide +kernel
theorem dL_breaks_91 : decode cL_breaks 91 = .ok (.iconst 0, 1) := by decide +kernel
theorem dL_breaks_92 : decode cL_breaks 92 = .ok (.iconst 0, 1) := by decide +kernel
theorem dL_breaks_93 : decode cL_breaks 93 = .ok (.iconst 0, 1) := by decide +kernel
theorem dL_breaks_94 : decode cL_breaks 94 = .ok (.invokestatic 160, 3) := by decide +kernel
theorem dL_breaks_97 : decode cL_breaks 97 = .ok (.invokestatic 203, 3) := by decide +kernel
theorem dL_breaks_100 : decode cL_breaks 100 = .ok (.ifCond .ne 22, 3) := by decide +kernel
theorem dL_breaks_103 : decode cL_breaks 103 = .ok (.aload_n 0, 1) := by decide +kernel
theorem dL_breaks_104 : decode cL_breaks 104 = .ok (.bipush 11, 2) := by decide +kernel
theorem dL_breaks_106 : decode cL_breaks 106 = .ok (.iconst 0, 1) := by decide +kernel
theorem dL_breaks_107 : decode cL_breaks 107 = .ok (.iconst 0, 1) := by decide +kernel
theorem dL_breaks_108 : decode cL_breaks 108 = .ok (.iconst 0, 1) := by decide +kernel
theorem dL_breaks_109 : decode cL_breaks 109 = .ok (.invokestatic 160, 3) := by decide +kernel
theorem dL_breaks_112 : decode cL_breaks 112 = .ok (.invokestatic 203, 3) := by decide +kernel
theorem dL_breaks_115 : decode cL_breaks 115 = .ok (.ifCond .ne 7, 3) := by decide +kernel
theorem dL_breaks_118 : decode cL_breaks 118 = .ok (.iconst 1, 1) := by decide +kernel
theorem dL_breaks_119 : decode cL_breaks 119 = .ok (.goto 4, 3) := by decide +kernel
theorem dL_breaks_122 : decode cL_breaks 122 = .ok (.iconst 0, 1) := by decide +kernel
theorem dL_breaks_123 : decode cL_breaks 123 = .ok (.ireturn, 1) := by decide +kernel
theorem dL_lorry_0 : decode cL_lorry 0 = .ok (.aload_n 0, 1) := by decide +kernel
theorem dL_lorry_1 : decode cL_lorry 1 = .ok (.iconst 3, 1) := by decide +kernel
theorem dL_lorry_2 : decode cL_lorry 2 = .ok (.iload_n 2, 1) := by decide +kernel
theorem dL_lorry_3 : decode cL_lorry 3 = .ok (.iconst 0, 1) := by decide +kernel
theorem dL_lorry_4 : decode cL_lorry 4 = .ok (.iconst 0, 1) := by decide +kernel
theorem dL_lorry_5 : decode cL_lorry 5 = .ok (.invokestatic 160, 3) := by decide +kernel
theorem dL_lorry_8 : decode cL_lorry 8 = .ok (.istore 4, 2) := by decide +kernel
theorem dL_lorry_10 : decode cL_lorry 10 = .ok (.aload_n 0, 1) := by decide +kernel
theorem dL_lorry_11 : decode cL_lorry 11 = .ok (.bipush 16, 2) := by decide +kernel
theorem dL_lorry_13 : decode cL_lorry 13 = .ok (.iload_n 2, 1) := by decide +kernel
theorem dL_lorry_14 : decode cL_lorry 14 = .ok (.iconst 0, 1) := by decide +kernel
theorem dL_lorry_15 : decode cL_lorry 15 = .ok (.iconst 0, 1) := by decide +kernel
theorem dL_lorry_16 : decode cL_lorry 16 = .ok (.invokestatic 160, 3) := by decide +kernel
theorem dL_lorry_19 : decode cL_lorry 19 = .ok (.istore 5, 2) := by decide +kernel
theorem dL_lorry_21 : decode cL_lorry 21 = .ok (.iload 5, 2) := by decide +kernel
theorem dL_lorry_23 : decode cL_lorry 23 = .ok (.iconst (-1), 1) := by decide +kernel
theorem dL_lorry_24 : decode cL_lorry 24 = .ok (.if_icmp .eq 14, 3) := by decide +kernel
theorem dL_lorry_27 : decode cL_lorry 27 = .ok (.aload_n 0, 1) := by decide +kernel
theorem dL_lorry_28 : decode cL_lorry 28 = .ok (.iconst 3, 1) := by decide +kernel
theorem dL_lorry_29 : decode cL_lorry 29 = .ok (.iload_n 2, 1) := by decide +kernel
theorem dL_lorry_30 : decode cL_lorry 30 = .ok (.iconst 5, 1) := by decide +kernel
theorem dL_lorry_31 : decode cL_lorry 31 = .ok (.iconst 0, 1) := by decide +kernel
theorem dL_lorry_32 : decode cL_lorry 32 = .ok (.invokestatic 160, 3) := by decide +kernel
theorem dL_lorry_35 : decode cL_lorry 35 = .ok (.ifCond .ne 7, 3) := by decide +kernel
theorem dL_lorry_38 : decode cL_lorry 38 = .ok (.iconst 1, 1) := by decide +kernel
theorem dL_lorry_39 : decode cL_lorry 39 = .ok (.goto 4, 3) := by decide +kernel
theorem dL_lorry_42 : decode cL_lorry 42 = .ok (.iconst 0, 1) := by decide +kernel
theorem dL_lorry_43 : decode cL_lorry 43 = .ok (.istore 6, 2) := by decide +kernel
theorem dL_lorry_45 : decode cL_lorry 45 = .ok (.iload 5, 2) := by decide +kernel
theorem dL_lorry_47 : decode cL_lorry 47 = .ok (.iconst (-1), 1) := by decide +kernel
theorem dL_lorry_48 : decode cL_lorry 48 = .ok (.if_icmp .eq 42, 3) := by decide +kernel
theorem dL_lorry_51 : decode cL_lorry 51 = .ok (.iload 5, 2) := by decide +kernel
theorem dL_lorry_53 : decode cL_lorry 53 = .ok (.bipush 60, 2) := by decide +kernel
theorem dL_lorry_55 : decode cL_lorry 55 = .ok (.if_icmp .gt 35, 3) := by decide +kernel
theorem dL_lorry_58 : decode cL_lorry 58 = .ok (.iload 6, 2) := by decide +kernel
theorem dL_lorry_60 : decode cL_lorry 60 = .ok (.ifCond .eq 27, 3) := by decide +kernel
theorem dL_lorry_63 : decode cL_lorry 63 = .ok (.aload_n 0, 1) := by decide +kernel
theorem dL_lorry_64 : decode cL_lorry 64 = .ok (.iload_n 2, 1) := by decide +kernel
theorem dL_lorry_65 : decode cL_lorry 65 = .ok (.iload 5, 2) := by decide +kernel
theorem dL_lorry_67 : decode cL_lorry 67 = .ok (.invokestatic 211, 3) := by decide +kernel
theorem dL_lorry_70 : decode cL_lorry 70 = .ok (.ifCond .eq 17, 3) := by decide +kernel
theorem dL_lorry_73 : decode cL_lorry 73 = .ok (.aload_n 1, 1) := by decide +kernel
theorem dL_lorry_74 : decode cL_lorry 74 = .ok (.iload_n 2, 1) := by decide +kernel
theorem dL_lorry_75 : decode cL_lorry 75 = .ok (.iload 5, 2) := by decide +kernel
theorem dL_lorry_77 : decode cL_lorry 77 = .ok (.invokestatic 211, 3) := by decide +kernel
theorem dL_lorry_80 : decode cL_lorry 80 = .ok (.ifCond .eq 7, 3) := by decide +kernel
theorem dL_lorry_83 : decode cL_lorry 83 = .ok (.iconst 1, 1) := by decide +kernel
theorem dL_lorry_84 : decode cL_lorry 84 = .ok (.goto 4, 3) := by decide +kernel
theorem dL_lorry_87 : decode cL_lorry 87 = .ok (.iconst 0, 1) := by decide +kernel
theorem dL_lorry_88 : decode cL_lorry 88 = .ok (.istore 6, 2) := by decide +kernel
theorem dL_lorry_90 : decode cL_lorry 90 = .ok (.iload 4, 2) := by decide +kernel
theorem dL_lorry_92 : decode cL_lorry 92 = .ok (.ifCond .ne 28, 3) := by decide +kernel
theorem dL_lorry_95 : decode cL_lorry 95 = .ok (.iload 6, 2) := by decide +kernel
theorem dL_lorry_97 : decode cL_lorry 97 = .ok (.ifCond .eq 21, 3) := by decide +kernel
theorem dL_lorry_100 : decode cL_lorry 100 = .ok (.aload_n 0, 1) := by decide +kernel
theorem dL_lorry_101 : decode cL_lorry 101 = .ok (.bipush 13, 2) := by decide +kernel
theorem dL_lorry_103 : decode cL_lorry 103 = .ok (.iload_n 2, 1) := by decide +kernel
theorem dL_lorry_104 : decode cL_lorry 104 = .ok (.iconst 0, 1) := by decide +kernel
theorem dL_lorry_105 : decode cL_lorry 105 = .ok (.iconst 0, 1) := by decide +kernel
theorem dL_lorry_106 : decode cL_lorry 106 = .ok (.invokestatic 160, 3) := by decide +kernel
theorem dL_lorry_109 : decode cL_lorry 109 = .ok (.ldc 15, 2) := by decide +kernel
theorem dL_lorry_111 : decode cL_lorry 111 = .ok (.if_icmp .ne 7, 3) := by decide +kernel
theorem dL_lorry_114 : decode cL_lorry 114 = .ok (.iconst 1, 1) := by decide +kernel
theorem dL_lorry_115 : decode cL_lorry 115 = .ok (.goto 4, 3) := by decide +kernel
theorem dL_lorry_118 : decode cL_lorry 118 = .ok (.iconst 0, 1) := by decide +kernel
theorem dL_lorry_119 : decode cL_lorry 119 = .ok (.ireturn, 1) := by decide +kernel
theorem dL_lorry_120 : decode cL_lorry 120 = .ok (.iload_n 3, 1) := by decide +kernel
theorem dL_lorry_121 : decode cL_lorry 121 = .ok (.iload 4, 2) := by decide +kernel
theorem dL_lorry_123 : decode cL_lorry 123 = .ok (.irem, 1) := by decide +kernel
theorem dL_lorry_124 : decode cL_lorry 124 = .ok (.istore 7, 2) := by decide +kernel
theorem dL_lorry_126 : decode cL_lorry 126 = .ok (.aload_n 0, 1) := by decide +kernel
theorem dL_lorry_127 : decode cL_lorry 127 = .ok (.bipush 13, 2) := by decide +kernel
theorem dL_lorry_129 : decode cL_lorry 129 = .ok (.iload_n 2, 1) := by decide +kernel
theorem dL_lorry_130 : decode cL_lorry 130 = .ok (.iload 7, 2) := by decide +kernel
theorem dL_lorry_132 : decode cL_lorry 132 = .ok (.iconst 0, 1) := by decide +kernel
theorem dL_lorry_133 : decode cL_lorry 133 = .ok (.invokestatic 160, 3) := by decide +kernel
theorem dL_lorry_136 : decode cL_lorry 136 = .ok (.istore 8, 2) := by decide +kernel
theorem dL_lorry_138 : decode cL_lorry 138 = .ok (.aload_n 0, 1) := by decide +kernel
theorem dL_lorry_139 : decode cL_lorry 139 = .ok (.iconst 4, 1) := by decide +kernel
theorem dL_lorry_140 : decode cL_lorry 140 = .ok (.iload_n 2, 1) := by decide +kernel
theorem dL_lorry_141 : decode cL_lorry 141 = .ok (.iload 7, 2) := by decide +kernel
theorem dL_lorry_143 : decode cL_lorry 143 = .ok (.iconst 1, 1) := by decide +kernel
theorem dL_lorry_144 : decode cL_lorry 144 = .ok (.invokestatic 160, 3) := by decide +kernel
theorem dL_lorry_147 : decode cL_lorry 147 = .ok (.aload_n 0, 1) := by decide +kernel
theorem dL_lorry_148 : decode cL_lorry 148 = .ok (.iconst 4, 1) := by decide +kernel
theorem dL_lorry_149 : decode cL_lorry 149 = .ok (.iload_n 2, 1) := by decide +kernel
theorem dL_lorry_150 : decode cL_lorry 150 = .ok (.iload 7, 2) := by decide +kernel
theorem dL_lorry_152 : decode cL_lorry 152 = .ok (.iconst 0, 1) := by decide +kernel
theorem dL_lorry_153 : decode cL_lorry 153 = .ok (.invokestatic 160, 3) := by decide +kernel
theorem dL_lorry_156 : decode cL_lorry 156 = .ok (.isub, 1) := by decide +kernel
theorem dL_lorry_157 : decode cL_lorry 157 = .ok (.iconst 1, 1) := by decide +kernel
theorem dL_lorry_158 : decode cL_lorry 158 = .ok (.iadd, 1) := by decide +kernel
theorem dL_lorry_159 : decode cL_lorry 159 = .ok (.istore 9, 2) := by decide +kernel
theorem dL_lorry_161 : decode cL_lorry 161 = .ok (.iload 6, 2) := by decide +kernel
theorem dL_lorry_163 : decode cL_lorry 163 = .ok (.ifCond .eq 32, 3) := by decide +kernel
theorem dL_lorry_166 : decode cL_lorry 166 = .ok (.iload 8, 2) := by decide +kernel
theorem dL_lorry_168 : decode cL_lorry 168 = .ok (.ifCond .ne 7, 3) := by decide +kernel
theorem dL_lorry_171 : decode cL_lorry 171 = .ok (.iconst 1, 1) := by decide +kernel
theorem dL_lorry_172 : decode cL_lorry 172 = .ok (.goto 4, 3) := by decide +kernel
theorem dL_lorry_175 : decode cL_lorry 175 = .ok (.iconst 0, 1) := by decide +kernel
theorem dL_lorry_176 : decode cL_lorry 176 = .ok (.iload 9, 2) := by decide +kernel
theorem dL_lorry_178 : decode cL_lorry 178 = .ok (.bipush 20, 2) := by decide +kernel
theorem dL_lorry_180 : decode cL_lorry 180 = .ok (.if_icmp .le 7, 3) := by decide +kernel
theorem dL_lorry_183 : decode cL_lorry 183 = .ok (.iconst 1, 1) := by decide +kernel
theorem dL_lorry_184 : decode cL_lorry 184 = .ok (.goto 4, 3) := by decide +kernel
theorem dL_lorry_187 : decode cL_lorry 187 = .ok (.iconst 0, 1) := by decide +kernel
theorem dL_lorry_188 : decode cL_lorry 188 = .ok (.if_icmp .ne 7, 3) := by decide +kernel
theorem dL_lorry_191 : decode cL_lorry 191 = .ok (.iconst 1, 1) := by decide +kernel
theorem dL_lorry_192 : decode cL_lorry 192 = .ok (.goto 4, 3) := by decide +kernel
theorem dL_lorry_195 : decode cL_lorry 195 = .ok (.iconst 0, 1) := by decide +kernel
theorem dL_lorry_196 : decode cL_lorry 196 = .ok (.istore 6, 2) := by decide +kernel
theorem dL_lorry_198 : decode cL_lorry 198 = .ok (.iload 8, 2) := by decide +kernel
theorem dL_lorry_200 : decode cL_lorry 200 = .ok (.iconst 1, 1) := by decide +kernel
theorem dL_lorry_201 : decode cL_lorry 201 = .ok (.if_icmp .lt 10, 3) := by decide +kernel
theorem dL_lorry_204 : decode cL_lorry 204 = .ok (.iload 8, 2) := by decide +kernel
theorem dL_lorry_206 : decode cL_lorry 206 = .ok (.bipush 60, 2) := by decide +kernel
theorem dL_lorry_208 : decode cL_lorry 208 = .ok (.if_icmp .le 6, 3) := by decide +kernel
theorem dL_lorry_211 : decode cL_lorry 211 = .ok (.iload 6, 2) := by decide +kernel
theorem dL_lorry_213 : decode cL_lorry 213 = .ok (.ireturn, 1) := by decide +kernel
theorem dL_lorry_214 : decode cL_lorry 214 = .ok (.iload 6, 2) := by decide +kernel
theorem dL_lorry_216 : decode cL_lorry 216 = .ok (.ifCond .eq 35, 3) := by decide +kernel
theorem dL_lorry_219 : decode cL_lorry 219 = .ok (.aload_n 0, 1) := by decide +kernel
theorem dL_lorry_220 : decode cL_lorry 220 = .ok (.bipush 9, 2) := by decide +kernel
theorem dL_lorry_222 : decode cL_lorry 222 = .ok (.iload 8, 2) := by decide +kernel
theorem dL_lorry_224 : decode cL_lorry 224 = .ok (.iconst 0, 1) := by decide +kernel
theorem dL_lorry_225 : decode cL_lorry 225 = .ok (.iconst 0, 1) := by decide +kernel
theorem dL_lorry_226 : decode cL_lorry 226 = .ok (.invokestatic 160, 3) := by decide +kernel
theorem dL_lorry_229 : decode cL_lorry 229 = .ok (.iconst 1, 1) := by decide +kernel
theorem dL_lorry_230 : decode cL_lorry 230 = .ok (.if_icmp .lt 21, 3) := by decide +kernel
theorem dL_lorry_233 : decode cL_lorry 233 = .ok (.aload_n 1, 1) := by decide +kernel
theorem dL_lorry_234 : decode cL_lorry 234 = .ok (.bipush 9, 2) := by decide +kernel
theorem dL_lorry_236 : decode cL_lorry 236 = .ok (.iload 8, 2) := by decide +kernel
theorem dL_lorry_238 : decode cL_lorry 238 = .ok (.iconst 0, 1) := by decide +kernel
theorem dL_lorry_239 : decode cL_lorry 239 = .ok (.iconst 0, 1) := by decide +kernel
theorem dL_lorry_240 : decode cL_lorry 240 = .ok (.invokestatic 160, 3) := by decide +kernel
theorem dL_lorry_243 : decode cL_lorry 243 = .ok (.iconst 1, 1) := by decide +kernel
theorem dL_lorry_244 : decode cL_lorry 244 = .ok (.if_icmp .lt 7, 3) := by decide +kernel
theorem dL_lorry_247 : decode cL_lorry 247 = .ok (.iconst 1, 1) := by decide +kernel
theorem dL_lorry_248 : decode cL_lorry 248 = .ok (.goto 4, 3) := by decide +kernel
theorem dL_lorry_251 : decode cL_lorry 251 = .ok (.iconst 0, 1) := by decide +kernel
theorem dL_lorry_252 : decode cL_lorry 252 = .ok (.istore 6, 2) := by decide +kernel
theorem dL_lorry_254 : decode cL_lorry 254 = .ok (.iload 7, 2) := by decide +kernel
theorem dL_lorry_256 : decode cL_lorry 256 = .ok (.iload 4, 2) := by decide +kernel
theorem dL_lorry_258 : decode cL_lorry 258 = .ok (.isub, 1) := by decide +kernel
theorem dL_lorry_259 : decode cL_lorry 259 = .ok (.aload_n 0, 1) := by decide +kernel
theorem dL_lorry_260 : decode cL_lorry 260 = .ok (.iconst 3, 1) := by decide +kernel
theorem dL_lorry_261 : decode cL_lorry 261 = .ok (.iload_n 2, 1) := by decide +kernel
theorem dL_lorry_262 : decode cL_lorry 262 = .ok (.iconst 0, 1) := by decide +kernel
theorem dL_lorry_263 : decode cL_lorry 263 = .ok (.iconst 0, 1) := by decide +kernel
theorem dL_lorry_264 : decode cL_lorry 264 = .ok (.invokestatic 160, 3) := by decide +kernel
theorem dL_lorry_267 : decode cL_lorry 267 = .ok (.iadd, 1) := by decide +kernel
theorem dL_lorry_268 : decode cL_lorry 268 = .ok (.istore 10, 2) := by decide +kernel
theorem dL_lorry_270 : decode cL_lorry 270 = .ok (.iload 6, 2) := by decide +kernel
theorem dL_lorry_272 : decode cL_lorry 272 = .ok (.ifCond .eq 81, 3) := by decide +kernel
theorem dL_lorry_275 : decode cL_lorry 275 = .ok (.iload 10, 2) := by decide +kernel
theorem dL_lorry_277 : decode cL_lorry 277 = .ok (.ifCond .lt 76, 3) := by decide +kernel
theorem dL_lorry_280 : decode cL_lorry 280 = .ok (.aload_n 0, 1) := by decide +kernel
theorem dL_lorry_281 : decode cL_lorry 281 = .ok (.iconst 4, 1) := by decide +kernel
theorem dL_lorry_282 : decode cL_lorry 282 = .ok (.iload_n 2, 1) := by decide +kernel
theorem dL_lorry_283 : decode cL_lorry 283 = .ok (.iload 10, 2) := by decide +kernel
theorem dL_lorry_285 : decode cL_lorry 285 = .ok (.iconst 1, 1) := by decide +kernel
theorem dL_lorry_286 : decode cL_lorry 286 = .ok (.invokestatic 160, 3) := by decide +kernel
theorem dL_lorry_289 : decode cL_lorry 289 = .ok (.aload_n 0, 1) := by decide +kernel
theorem dL_lorry_290 : decode cL_lorry 290 = .ok (.iconst 4, 1) := by decide +kernel
theorem dL_lorry_291 : decode cL_lorry 291 = .ok (.iload_n 2, 1) := by decide +kernel
theorem dL_lorry_292 : decode cL_lorry 292 = .ok (.iload 10, 2) := by decide +kernel
theorem dL_lorry_294 : decode cL_lorry 294 = .ok (.iconst 0, 1) := by decide +kernel
theorem dL_lorry_295 : decode cL_lorry 295 = .ok (.invokestatic 160, 3) := by decide +kernel
theorem dL_lorry_298 : decode cL_lorry 298 = .ok (.isub, 1) := by decide +kernel
theorem dL_lorry_299 : decode cL_lorry 299 = .ok (.bipush 20, 2) := by decide +kernel
theorem dL_lorry_301 : decode cL_lorry 301 = .ok (.if_icmp .ne 52, 3) := by decide +kernel
theorem dL_lorry_304 : decode cL_lorry 304 = .ok (.aload_n 0, 1) := by decide +kernel
theorem dL_lorry_305 : decode cL_lorry 305 = .ok (.bipush 11, 2) := by decide +kernel
theorem dL_lorry_307 : decode cL_lorry 307 = .ok (.iconst 0, 1) := by decide +kernel
theorem dL_lorry_308 : decode cL_lorry 308 = .ok (.iconst 0, 1) := by decide +kernel
theorem dL_lorry_309 : decode cL_lorry 309 = .ok (.iconst 0, 1) := by decide +kernel
theorem dL_lorry_310 : decode cL_lorry 310 = .ok (.invokestatic 160, 3) := by decide +kernel
theorem dL_lorry_313 : decode cL_lorry 313 = .ok (.invokestatic 203, 3) := by decide +kernel
theorem dL_lorry_316 : decode cL_lorry 316 = .ok (.ifCond .ne 37, 3) := by decide +kernel
theorem dL_lorry_319 : decode cL_lorry 319 = .ok (.aload_n 1, 1) := by decide +kernel
theorem dL_lorry_320 : decode cL_lorry 320 = .ok (.bipush 11, 2) := by decide +kernel
theorem dL_lorry_322 : decode cL_lorry 322 = .ok (.iconst 0, 1) := by decide +kernel
theorem dL_lorry_323 : decode cL_lorry 323 = .ok (.iconst 0, 1) := by decide +kernel
theorem dL_lorry_324 : decode cL_lorry 324 = .ok (.iconst 0, 1) := by decide +kernel
theorem dL_lorry_325 : decode cL_lorry 325 = .ok (.invokestatic 160, 3) := by decide +kernel
theorem dL_lorry_328 : decode cL_lorry 328 = .ok (.invokestatic 203, 3) := by decide +kernel
theorem dL_lorry_331 : decode cL_lorry 331 = .ok (.ifCond .ne 22, 3) := by decide +kernel
theorem dL_lorry_334 : decode cL_lorry 334 = .ok (.aload_n 0, 1) := by decide +kernel
theorem dL_lorry_335 : decode cL_lorry 335 = .ok (.bipush 13, 2) := by decide +kernel
theorem dL_lorry_337 : decode cL_lorry 337 = .ok (.iload_n 2, 1) := by decide +kernel
theorem dL_lorry_338 : decode cL_lorry 338 = .ok (.iload 7, 2) := by decide +kernel
theorem dL_lorry_340 : decode cL_lorry 340 = .ok (.iconst 0, 1) := by decide +kernel
theorem dL_lorry_341 : decode cL_lorry 341 = .ok (.invokestatic 160, 3) := by decide +kernel
theorem dL_lorry_344 : decode cL_lorry 344 = .ok (.iload 8, 2) := by decide +kernel
theorem dL_lorry_346 : decode cL_lorry 346 = .ok (.if_icmp .ne 7, 3) := by decide +kernel
theorem dL_lorry_349 : decode cL_lorry 349 = .ok (.iconst 1, 1) := by decide +kernel
theorem dL_lorry_350 : decode cL_lorry 350 = .ok (.goto 4, 3) := by decide +kernel
theorem dL_lorry_353 : decode cL_lorry 353 = .ok (.iconst 0, 1) := by decide +kernel
theorem dL_lorry_354 : decode cL_lorry 354 = .ok (.ireturn, 1) := by decide +kernel
