theorem fl_X1_31 : FL9 RX1 31 1 5 TX1 17 := ⟨rfl, by decide, inG_X1, w9_87, ⟨tyX1, tyX1_ok⟩, nmX1⟩
theorem fi_X1_5 : FI9 1 5 := fun ca a n m => ⟨_, rfl, rfl, Nat.le_of_ble_eq_true rfl, fun v => rfl⟩
theorem fl_X1_54 : FL9 RX1 54 1 12 TX1 17 := ⟨rfl, by decide, inG_X1, w9_99, ⟨tyX1, tyX1_ok⟩, nmX1⟩
theorem fi_X1_12 : FI9 1 12 := fun ca a n m => ⟨_, rfl, rfl, Nat.le_of_ble_eq_true rfl, fun v => rfl⟩
theorem fl_X1_57 : FL9 RX1 57 1 13 TX1 17 := ⟨rfl, by decide, inG_X1, w9_101, ⟨tyX1, tyX1_ok⟩, nmX1⟩
theorem fi_X1_13 : FI9 1 13 := fun ca a n m => ⟨_, rfl, rfl, Nat.le_of_ble_eq_true rfl, fun v => rfl⟩
theorem fl_X1_60 : FL9 RX1 60 1 14 TX1 17 := ⟨rfl, by decide, inG_X1, w9_102, ⟨tyX1, tyX1_ok⟩, nmX1⟩
theorem fi_X1_14 : FI9 1 14 := fun ca a n m => ⟨_, rfl, rfl, Nat.le_of_ble_eq_true rfl, fun v => rfl⟩
theorem fl_X1_63 : FL9 RX1 63 1 15 TX1 17 := ⟨rfl, by decide, inG_X1, w9_103, ⟨tyX1, tyX1_ok⟩, nmX1⟩
theorem fi_X1_15 : FI9 1 15 := fun ca a n m => ⟨_, rfl, rfl, Nat.le_of_ble_eq_true rfl, fun v => rfl⟩
theorem fl_X1_51 : FL9 RX1 51 1 11 TX1 17 := ⟨rfl, by decide, inG_X1, w9_97, ⟨tyX1, tyX1_ok⟩, nmX1⟩
theorem fi_X1_11 : FI9 1 11 := fun ca a n m => ⟨_, rfl, rfl, Nat.le_of_ble_eq_true rfl, fun v => rfl⟩
theorem fl_X1_47 : FL9 RX1 47 1 10 TX1 17 := ⟨rfl, by decide, inG_X1, w9_95, ⟨tyX1, tyX1_ok⟩, nmX1⟩
theorem fi_X1_10 : FI9 1 10 := fun ca a n m => ⟨_, rfl, rfl, Nat.le_of_ble_eq_true rfl, fun v => rfl⟩
theorem fl_X1_66 : FL9 RX1 66 1 16 TX1 17 := ⟨rfl, by decide, inG_X1, w9_105, ⟨tyX1, tyX1_ok⟩, nmX1⟩
theorem fi_X1_16 : FI9 1 16 := fun ca a n m => ⟨_, rfl, rfl, Nat.le_of_ble_eq_true rfl, fun v => rfl⟩
theorem fl_X0_25 : FL9 RX0 25 0 2 TX0 4 := ⟨rfl, by decide, inG_X0, w9_152, ⟨tyX0, tyX0_ok⟩, nmX0⟩
theorem fi_X0_2 : FI9 0 2 := fun ca a n m => ⟨_, rfl, rfl, Nat.le_of_ble_eq_true rfl, fun v => rfl⟩
theorem fl_X0_11 : FL9 RX0 11 0 0 TX0 4 := ⟨rfl, by decide, inG_X0, w9_148, ⟨tyX0, tyX0_ok⟩, nmX0⟩
theorem fr_X0_0 : FR9 0 0 1 := fun ca a n m => ⟨_, rfl, rfl⟩
theorem lv_X0_70 : LV9 RX0 70 1 yX1_tally cX1_tally 2 (some .int) 1 := ⟨by decide, ⟨_, _, rfl⟩, w9_463, w9_464, w9_465, w9_47, w9_466, ⟨by decide +kernel, by decide +kernel, by decide +kernel⟩, by decide⟩
theorem fl_X2_20 : FL9 RX2 20 2 2 TX2 9 := ⟨rfl, by decide, inG_X2, w9_168, ⟨tyX2, tyX2_ok⟩, nmX2⟩
theorem fr_X2_2 : FR9 2 2 2 := fun ca a n m => ⟨_, rfl, rfl⟩
theorem lv_X2_135 : LV9 RX2 135 0 yX0_total cX0_total 4 (some .int) 1 := ⟨by decide, ⟨_, _, rfl⟩, w9_459, w9_460, w9_461, w9_46, w9_462, ⟨by decide +kernel, by decide +kernel, by decide +kernel⟩, by decide⟩
theorem fl_X2_132 : FL9 RX2 132 0 3 TX0 4 := ⟨rfl, by decide, inG_X0, w9_155, ⟨tyX0, tyX0_ok⟩, nmX0⟩
theorem fi_X0_3 : FI9 0 3 := fun ca a n m => ⟨_, rfl, rfl, Nat.le_of_ble_eq_true rfl, fun v => rfl⟩
theorem fl_X2_129 : FL9 RX2 129 0 2 TX0 4 := ⟨rfl, by decide, inG_X0, w9_153, ⟨tyX0, tyX0_ok⟩, nmX0⟩
theorem lv_L_21 : LV9 RL 21 2 yX2_about cX2_about 2 (some .int) 1 := ⟨by decide, ⟨_, _, rfl⟩, w9_454, w9_455, w9_456, w9_45, w9_457, ⟨by decide +kernel, by decide +kernel, by decide +kernel⟩, by decide⟩
theorem fl_X2_13 : FL9 RX2 13 2 1 TX2 9 := ⟨rfl, by decide, inG_X2, w9_167, ⟨tyX2, tyX2_ok⟩, nmX2⟩
theorem fi_X2_1 : FI9 2 1 := fun ca a n m => ⟨_, rfl, rfl, Nat.le_of_ble_eq_true rfl, fun v => rfl⟩
theorem fl_X2_9 : FL9 RX2 9 2 0 TX2 9 := ⟨rfl, by decide, inG_X2, w9_166, ⟨tyX2, tyX2_ok⟩, nmX2⟩
theorem fr_X2_0 : FR9 2 0 1 := fun ca a n m => ⟨_, rfl, rfl⟩
theorem lv_L_7 : LV9 RL 7 2 yX2_append cX2_append 2 (some .int) 1 := ⟨by decide, ⟨_, _, rfl⟩, w9_234, w9_235, w9_236, w9_45, w9_237, ⟨by decide +kernel, by decide +kernel, by decide +kernel⟩, by decide⟩
theorem fl_X1_15 : FL9 RX1 15 1 1 TX1 17 := ⟨rfl, by decide, inG_X1, w9_83, ⟨tyX1, tyX1_ok⟩, nmX1⟩
theorem fr_X1_1 : FR9 1 1 2 := fun ca a n m => ⟨_, rfl, rfl⟩
theorem fl_X1_9 : FL9 RX1 9 1 0 TX1 17 := ⟨rfl, by decide, inG_X1, w9_82, ⟨tyX1, tyX1_ok⟩, nmX1⟩
theorem fr_X1_0 : FR9 1 0 1 := fun ca a n m => ⟨_, rfl, rfl⟩
theorem lv_X1_73 : LV9 RX1 73 1 yX1_lastCell cX1_lastCell 2 (some .int) 1 := ⟨by decide, ⟨_, _, rfl⟩, w9_369, w9_371, w9_9, w9_47, w9_372, ⟨by decide +kernel, by decide +kernel, by decide +kernel⟩, by decide⟩
theorem fl_X1_18 : FL9 RX1 18 1 2 TX1 17 := ⟨rfl, by decide, inG_X1, w9_84, ⟨tyX1, tyX1_ok⟩, nmX1⟩
theorem fr_X1_2 : FR9 1 2 3 := fun ca a n m => ⟨_, rfl, rfl⟩
theorem fl_X1_22 : FL9 RX1 22 1 3 TX1 17 := ⟨rfl, by decide, inG_X1, w9_85, ⟨tyX1, tyX1_ok⟩, nmX1⟩
theorem fr_X1_3 : FR9 1 3 4 := fun ca a n m => ⟨_, rfl, rfl⟩
theorem fl_X1_25 : FL9 RX1 25 1 4 TX1 17 := ⟨rfl, by decide, inG_X1, w9_86, ⟨tyX1, tyX1_ok⟩, nmX1⟩
theorem fr_X1_4 : FR9 1 4 5 := fun ca a n m => ⟨_, rfl, rfl⟩
theorem lv_X0_43 : LV9 RX0 43 0 yX0_hasLane cX0_hasLane 2 (some .boolean) 1 := ⟨by decide, ⟨_, _, rfl⟩, w9_361, w9_362, w9_363, w9_46, w9_364, ⟨by decide +kernel, by decide +kernel, by decide +kernel⟩, by decide⟩
theorem lv_X0_47 : LV9 RX0 47 1 yX1_addVehicle cX1_addVehicle 5 (some .boolean) 3 := ⟨by decide, ⟨_, _, rfl⟩, w9_365, w9_366, w9_367, w9_47, w9_368, ⟨by decide +kernel, by decide +kernel, by decide +kernel⟩, by decide⟩
theorem lv_X2_172 : LV9 RX2 172 0 yX0_hasLane cX0_hasLane 2 (some .boolean) 1 := ⟨by decide, ⟨_, _, rfl⟩, w9_479, w9_362, w9_363, w9_46, w9_364, ⟨by decide +kernel, by decide +kernel, by decide +kernel⟩, by decide⟩
theorem fl_X1_35 : FL9 RX1 35 1 6 TX1 17 := ⟨rfl, by decide, inG_X1, w9_89, ⟨tyX1, tyX1_ok⟩, nmX1⟩
theorem fi_X1_6 : FI9 1 6 := fun ca a n m => ⟨_, rfl, rfl, Nat.le_of_ble_eq_true rfl, fun v => rfl⟩
theorem fl_X1_38 : FL9 RX1 38 1 7 TX1 17 := ⟨rfl, by decide, inG_X1, w9_92, ⟨tyX1, tyX1_ok⟩, nmX1⟩
theorem fi_X1_7 : FI9 1 7 := fun ca a n m => ⟨_, rfl, rfl, Nat.le_of_ble_eq_true rfl, fun v => rfl⟩
theorem fl_X1_41 : FL9 RX1 41 1 8 TX1 17 := ⟨rfl, by decide, inG_X1, w9_93, ⟨tyX1, tyX1_ok⟩, nmX1⟩
theorem fi_X1_8 : FI9 1 8 := fun ca a n m => ⟨_, rfl, rfl, Nat.le_of_ble_eq_true rfl, fun v => rfl⟩
theorem fl_X1_44 : FL9 RX1 44 1 9 TX1 17 := ⟨rfl, by decide, inG_X1, w9_94, ⟨tyX1, tyX1_ok⟩, nmX1⟩
theorem fi_X1_9 : FI9 1 9 := fun ca a n m => ⟨_, rfl, rfl, Nat.le_of_ble_eq_true rfl, fun v => rfl⟩
theorem lv_X1_69 : LV9 RX1 69 1 yX1_copyVehicle cX1_copyVehicle 4 none 3 := ⟨by decide, ⟨_, _, rfl⟩, w9_412, w9_414, w9_14, w9_47, w9_415, ⟨by decide +kernel, by decide +kernel, by decide +kernel⟩, by decide⟩
theorem fl_X0_29 : FL9 RX0 29 0 3 TX0 4 := ⟨rfl, by decide, inG_X0, w9_154, ⟨tyX0, tyX0_ok⟩, nmX0⟩
theorem fl_X0_17 : FL9 RX0 17 0 1 TX0 4 := ⟨rfl, by decide, inG_X0, w9_150, ⟨tyX0, tyX0_ok⟩, nmX0⟩
theorem fr_X0_1 : FR9 0 1 2 := fun ca a n m => ⟨_, rfl, rfl⟩
theorem lv_X0_38 : LV9 RX0 38 1 yX1_copyFrom cX1_copyFrom 3 none 1 := ⟨by decide, ⟨_, _, rfl⟩, w9_562, w9_563, w9_564, w9_47, w9_565, ⟨by decide +kernel, by decide +kernel, by decide +kernel⟩, by decide⟩
theorem fl_X2_27 : FL9 RX2 27 2 4 TX2 9 := ⟨rfl, by decide, inG_X2, w9_170, ⟨tyX2, tyX2_ok⟩, nmX2⟩
theorem fr_X2_4 : FR9 2 4 44 := fun ca a n m => ⟨_, rfl, rfl⟩
theorem fl_X2_31 : FL9 RX2 31 2 5 TX2 9 := ⟨rfl, by decide, inG_X2, w9_171, ⟨tyX2, tyX2_ok⟩, nmX2⟩
theorem fi_X2_5 : FI9 2 5 := fun ca a n m => ⟨_, rfl, rfl, Nat.le_of_ble_eq_true rfl, fun v => rfl⟩
theorem fl_X2_34 : FL9 RX2 34 2 6 TX2 9 := ⟨rfl, by decide, inG_X2, w9_172, ⟨tyX2, tyX2_ok⟩, nmX2⟩
theorem fi_X2_6 : FI9 2 6 := fun ca a n m => ⟨_, rfl, rfl, Nat.le_of_ble_eq_true rfl, fun v => rfl⟩
theorem lv_X2_220 : LV9 RX2 220 0 yX0_copyFrom cX0_copyFrom 3 none 1 := ⟨by decide, ⟨_, _, rfl⟩, w9_555, w9_556, w9_557, w9_46, w9_558, ⟨by decide +kernel, by decide +kernel, by decide +kernel⟩, by decide⟩
theorem lv_X2_138 : LV9 RX2 138 2 yX2_checkLane cX2_checkLane 2 none 1 := ⟨by decide, ⟨_, _, rfl⟩, w9_475, w9_477, w9_22, w9_45, w9_478, ⟨by decide +kernel, by decide +kernel, by decide +kernel⟩, by decide⟩
theorem ls_X2_192 : LO9 RX2 192 yX2_checkLength cX2_checkLength 1 none 1 := ⟨w9_573, w9_574, w9_45, w9_575, ⟨by decide +kernel, by decide +kernel, by decide +kernel⟩, by decide⟩
theorem fl_X2_144 : FL9 RX2 144 0 0 TX0 4 := ⟨rfl, by decide, inG_X0, w9_149, ⟨tyX0, tyX0_ok⟩, nmX0⟩
theorem fl_X2_195 : FL9 RX2 195 1 5 TX1 17 := ⟨rfl, by decide, inG_X1, w9_88, ⟨tyX1, tyX1_ok⟩, nmX1⟩
theorem lv_X2_189 : LV9 RX2 189 2 yX2_remember cX2_remember 1 none 0 := ⟨by decide, ⟨_, _, rfl⟩, w9_551, w9_553, w9_25, w9_45, w9_554, ⟨by decide +kernel, by decide +kernel, by decide +kernel⟩, by decide⟩
theorem lv_X2_123 : LV9 RX2 123 0 yX0_addVehicle cX0_addVehicle 5 (some .boolean) 4 := ⟨by decide, ⟨_, _, rfl⟩, w9_357, w9_358, w9_359, w9_46, w9_360, ⟨by decide +kernel, by decide +kernel, by decide +kernel⟩, by decide⟩
theorem lv_L_43 : LV9 RL 43 2 yX2_arrive cX2_arrive 5 (some .int) 4 := ⟨by decide, ⟨_, _, rfl⟩, w9_569, w9_570, w9_571, w9_45, w9_572, ⟨by decide +kernel, by decide +kernel, by decide +kernel⟩, by decide⟩
theorem lv_X1_127 : LV9 RX1 127 1 yX1_hasVehicle cX1_hasVehicle 2 (some .boolean) 1 := ⟨by decide, ⟨_, _, rfl⟩, w9_526, w9_517, w9_518, w9_47, w9_519, ⟨by decide +kernel, by decide +kernel, by decide +kernel⟩, by decide⟩
theorem lv_X1_111 : LV9 RX1 111 1 yX1_vehicleInCheck cX1_vehicleInCheck 2 (some .int) 0 := ⟨by decide, ⟨_, _, rfl⟩, w9_420, w9_422, w9_16, w9_47, w9_423, ⟨by decide +kernel, by decide +kernel, by decide +kernel⟩, by decide⟩
theorem lv_X1_124 : LV9 RX1 124 1 yX1_isUnderArm cX1_isUnderArm 2 (some .boolean) 0 := ⟨by decide, ⟨_, _, rfl⟩, w9_388, w9_390, w9_10, w9_47, w9_391, ⟨by decide +kernel, by decide +kernel, by decide +kernel⟩, by decide⟩
theorem lv_X1_108 : LV9 RX1 108 1 yX1_removeFirst cX1_removeFirst 2 none 0 := ⟨by decide, ⟨_, _, rfl⟩, w9_408, w9_410, w9_13, w9_47, w9_411, ⟨by decide +kernel, by decide +kernel, by decide +kernel⟩, by decide⟩
theorem lv_X1_104 : LV9 RX1 104 1 yX1_canMove cX1_canMove 3 (some .boolean) 1 := ⟨by decide, ⟨_, _, rfl⟩, w9_404, w9_406, w9_12, w9_47, w9_407, ⟨by decide +kernel, by decide +kernel, by decide +kernel⟩, by decide⟩
theorem lv_X1_117 : LV9 RX1 117 1 yX1_letVehicleWaits cX1_letVehicleWaits 2 (some .boolean) 0 := ⟨by decide, ⟨_, _, rfl⟩, w9_428, w9_430, w9_17, w9_47, w9_431, ⟨by decide +kernel, by decide +kernel, by decide +kernel⟩, by decide⟩
theorem lv_X1_121 : LV9 RX1 121 1 yX1_isLoopCovered cX1_isLoopCovered 2 (some .boolean) 0 := ⟨by decide, ⟨_, _, rfl⟩, w9_432, w9_434, w9_18, w9_47, w9_435, ⟨by decide +kernel, by decide +kernel, by decide +kernel⟩, by decide⟩
theorem lv_X1_83 : LV9 RX1 83 1 yX1_moveVehicles cX1_moveVehicles 2 none 0 := ⟨by decide, ⟨_, _, rfl⟩, w9_400, w9_402, w9_11, w9_47, w9_403, ⟨by decide +kernel, by decide +kernel, by decide +kernel⟩, by decide⟩
theorem lv_X1_86 : LV9 RX1 86 1 yX1_checkTicket cX1_checkTicket 5 none 3 := ⟨by decide, ⟨_, _, rfl⟩, w9_416, w9_418, w9_15, w9_47, w9_419, ⟨by decide +kernel, by decide +kernel, by decide +kernel⟩, by decide⟩
theorem lv_X1_90 : LV9 RX1 90 1 yX1_reason cX1_reason 1 (some .int) 0 := ⟨by decide, ⟨_, _, rfl⟩, w9_424, w9_425, w9_426, w9_47, w9_427, ⟨by decide +kernel, by decide +kernel, by decide +kernel⟩, by decide⟩
theorem lv_X1_98 : LV9 RX1 98 1 yX1_hitIfUnderArm cX1_hitIfUnderArm 1 none 0 := ⟨by decide, ⟨_, _, rfl⟩, w9_443, w9_445, w9_20, w9_47, w9_446, ⟨by decide +kernel, by decide +kernel, by decide +kernel⟩, by decide⟩
theorem lv_X1_101 : LV9 RX1 101 1 yX1_countThrough cX1_countThrough 2 none 0 := ⟨by decide, ⟨_, _, rfl⟩, w9_447, w9_449, w9_21, w9_47, w9_450, ⟨by decide +kernel, by decide +kernel, by decide +kernel⟩, by decide⟩
theorem lv_X1_94 : LV9 RX1 94 1 yX1_moveArm cX1_moveArm 2 none 1 := ⟨by decide, ⟨_, _, rfl⟩, w9_436, w9_438, w9_19, w9_47, w9_439, ⟨by decide +kernel, by decide +kernel, by decide +kernel⟩, by decide⟩
theorem fl_X2_24 : FL9 RX2 24 2 3 TX2 9 := ⟨rfl, by decide, inG_X2, w9_169, ⟨tyX2, tyX2_ok⟩, nmX2⟩
theorem fr_X2_3 : FR9 2 3 23 := fun ca a n m => ⟨_, rfl, rfl⟩
theorem fl_X2_239 : FL9 RX2 239 1 12 TX1 17 := ⟨rfl, by decide, inG_X1, w9_100, ⟨tyX1, tyX1_ok⟩, nmX1⟩
theorem lv_X2_242 : LV9 RX2 242 1 yX1_hasGoneThrough cX1_hasGoneThrough 2 (some .boolean) 1 := ⟨by decide, ⟨_, _, rfl⟩, w9_645, w9_646, w9_647, w9_47, w9_648, ⟨by decide +kernel, by decide +kernel, by decide +kernel⟩, by decide⟩
theorem fl_X2_168 : FL9 RX2 168 0 1 TX0 4 := ⟨rfl, by decide, inG_X0, w9_151, ⟨tyX0, tyX0_ok⟩, nmX0⟩
theorem lv_X2_224 : LV9 RX2 224 1 yX1_tick cX1_tick 2 none 1 := ⟨by decide, ⟨_, _, rfl⟩, w9_633, w9_397, w9_398, w9_47, w9_399, ⟨by decide +kernel, by decide +kernel, by decide +kernel⟩, by decide⟩
theorem lv_X2_228 : LV9 RX2 228 2 yX2_copyThroughIn cX2_copyThroughIn 6 (some .int) 2 := ⟨by decide, ⟨_, _, rfl⟩, w9_641, w9_643, w9_26, w9_45, w9_644, ⟨by decide +kernel, by decide +kernel, by decide +kernel⟩, by decide⟩
theorem lv_L_69 : LV9 RL 69 2 yX2_bestLane cX2_bestLane 6 (some .int) 1 := ⟨by decide, ⟨_, _, rfl⟩, w9_652, w9_653, w9_654, w9_45, w9_655, ⟨by decide +kernel, by decide +kernel, by decide +kernel⟩, by decide⟩
theorem fl_X0_74 : FL9 RX0 74 1 6 TX1 17 := ⟨rfl, by decide, inG_X1, w9_90, ⟨tyX1, tyX1_ok⟩, nmX1⟩
theorem lv_X0_62 : LV9 RX0 62 1 yX1_tick cX1_tick 2 none 1 := ⟨by decide, ⟨_, _, rfl⟩, w9_396, w9_397, w9_398, w9_47, w9_399, ⟨by decide +kernel, by decide +kernel, by decide +kernel⟩, by decide⟩
theorem lv_X2_120 : LV9 RX2 120 0 yX0_letTicksGo cX0_letTicksGo 4 (some .boolean) 1 := ⟨by decide, ⟨_, _, rfl⟩, w9_392, w9_393, w9_394, w9_46, w9_395, ⟨by decide +kernel, by decide +kernel, by decide +kernel⟩, by decide⟩
theorem lv_X2_233 : LV9 RX2 233 0 yX0_armsUp cX0_armsUp 3 (some .int) 0 := ⟨by decide, ⟨_, _, rfl⟩, w9_664, w9_665, w9_666, w9_46, w9_667, ⟨by decide +kernel, by decide +kernel, by decide +kernel⟩, by decide⟩
theorem lv_L_72 : LV9 RL 72 2 yX2_coming cX2_coming 5 (some .int) 2 := ⟨by decide, ⟨_, _, rfl⟩, w9_659, w9_660, w9_661, w9_45, w9_662, ⟨by decide +kernel, by decide +kernel, by decide +kernel⟩, by decide⟩
theorem lv_L_63 : LV9 RL 63 2 yX2_emptyIn cX2_emptyIn 4 (some .int) 1 := ⟨by decide, ⟨_, _, rfl⟩, w9_629, w9_630, w9_631, w9_45, w9_632, ⟨by decide +kernel, by decide +kernel, by decide +kernel⟩, by decide⟩
theorem fl_X0_51 : FL9 RX0 51 1 10 TX1 17 := ⟨rfl, by decide, inG_X1, w9_96, ⟨tyX1, tyX1_ok⟩, nmX1⟩
theorem lv_X2_110 : LV9 RX2 110 0 yX0_changeLoop cX0_changeLoop 3 (some .boolean) 2 := ⟨by decide, ⟨_, _, rfl⟩, w9_376, w9_377, w9_378, w9_46, w9_379, ⟨by decide +kernel, by decide +kernel, by decide +kernel⟩, by decide⟩
theorem fl_X2_236 : FL9 RX2 236 1 15 TX1 17 := ⟨rfl, by decide, inG_X1, w9_104, ⟨tyX1, tyX1_ok⟩, nmX1⟩
theorem lv_L_75 : LV9 RL 75 2 yX2_hitsIn cX2_hitsIn 5 (some .int) 1 := ⟨by decide, ⟨_, _, rfl⟩, w9_671, w9_672, w9_673, w9_45, w9_674, ⟨by decide +kernel, by decide +kernel, by decide +kernel⟩, by decide⟩
theorem lv_X0_42 : LV9 RX0 42 1 yX1_clear cX1_clear 1 none 0 := ⟨by decide, ⟨_, _, rfl⟩, w9_344, w9_79, w9_80, w9_47, w9_81, ⟨by decide +kernel, by decide +kernel, by decide +kernel⟩, by decide⟩
theorem lv_X2_103 : LV9 RX2 103 0 yX0_addLane cX0_addLane 1 (some .boolean) 0 := ⟨by decide, ⟨_, _, rfl⟩, w9_340, w9_341, w9_342, w9_46, w9_343, ⟨by decide +kernel, by decide +kernel, by decide +kernel⟩, by decide⟩
theorem lv_L_40 : LV9 RL 40 2 yX2_lane cX2_lane 1 (some .int) 0 := ⟨by decide, ⟨_, _, rfl⟩, w9_546, w9_547, w9_548, w9_45, w9_549, ⟨by decide +kernel, by decide +kernel, by decide +kernel⟩, by decide⟩
theorem lv_X1_130 : LV9 RX1 130 1 yX1_countUnlet cX1_countUnlet 3 (some .int) 0 := ⟨by decide, ⟨_, _, rfl⟩, w9_501, w9_503, w9_23, w9_47, w9_504, ⟨by decide +kernel, by decide +kernel, by decide +kernel⟩, by decide⟩
theorem lv_X2_148 : LV9 RX2 148 1 yX1_number cX1_number 2 (some .int) 1 := ⟨by decide, ⟨_, _, rfl⟩, w9_497, w9_498, w9_499, w9_47, w9_500, ⟨by decide +kernel, by decide +kernel, by decide +kernel⟩, by decide⟩
theorem lv_L_24 : LV9 RL 24 2 yX2_laneOf cX2_laneOf 3 (some .int) 2 := ⟨by decide, ⟨_, _, rfl⟩, w9_471, w9_472, w9_473, w9_45, w9_474, ⟨by decide +kernel, by decide +kernel, by decide +kernel⟩, by decide⟩
theorem lv_X2_56 : LV9 RX2 56 2 yX2_signAt cX2_signAt 2 (some .int) 1 := ⟨by decide, ⟨_, _, rfl⟩, w9_202, w9_204, w9_0, w9_45, w9_205, ⟨by decide +kernel, by decide +kernel, by decide +kernel⟩, by decide⟩
theorem ls_X2_85 : LO9 RX2 85 yX2_fixedLength cX2_fixedLength 1 (some .int) 1 := ⟨w9_210, w9_211, w9_45, w9_212, ⟨by decide +kernel, by decide +kernel, by decide +kernel⟩, by decide⟩
theorem lv_X0_55 : LV9 RX0 55 1 yX1_canBeMended cX1_canBeMended 1 (some .boolean) 0 := ⟨by decide, ⟨_, _, rfl⟩, w9_384, w9_385, w9_386, w9_47, w9_387, ⟨by decide +kernel, by decide +kernel, by decide +kernel⟩, by decide⟩
theorem fl_X0_59 : FL9 RX0 59 1 11 TX1 17 := ⟨rfl, by decide, inG_X1, w9_98, ⟨tyX1, tyX1_ok⟩, nmX1⟩
theorem lv_X2_82 : LV9 RX2 82 2 yX2_digitAt cX2_digitAt 2 (some .int) 1 := ⟨by decide, ⟨_, _, rfl⟩, w9_349, w9_351, w9_7, w9_45, w9_352, ⟨by decide +kernel, by decide +kernel, by decide +kernel⟩, by decide⟩
theorem lv_X2_117 : LV9 RX2 117 2 yX2_twoDigitsAt cX2_twoDigitsAt 2 (some .int) 1 := ⟨by decide, ⟨_, _, rfl⟩, w9_353, w9_355, w9_8, w9_45, w9_356, ⟨by decide +kernel, by decide +kernel, by decide +kernel⟩, by decide⟩
theorem lv_X2_114 : LV9 RX2 114 0 yX0_mendArm cX0_mendArm 2 (some .boolean) 1 := ⟨by decide, ⟨_, _, rfl⟩, w9_380, w9_381, w9_382, w9_46, w9_383, ⟨by decide +kernel, by decide +kernel, by decide +kernel⟩, by decide⟩
theorem lv_X2_107 : LV9 RX2 107 2 yX2_doArrival cX2_doArrival 4 (some .boolean) 1 := ⟨by decide, ⟨_, _, rfl⟩, w9_345, w9_347, w9_6, w9_45, w9_348, ⟨by decide +kernel, by decide +kernel, by decide +kernel⟩, by decide⟩
theorem ls_X2_92 : LO9 RX2 92 yX2_isBetween cX2_isBetween 3 (some .boolean) 3 := ⟨w9_216, w9_217, w9_45, w9_218, ⟨by decide +kernel, by decide +kernel, by decide +kernel⟩, by decide⟩
theorem ls_X2_100 : LO9 RX2 100 yX2_isLastDigitOfLength cX2_isLastDigitOfLength 2 (some .boolean) 2 := ⟨w9_222, w9_223, w9_45, w9_224, ⟨by decide +kernel, by decide +kernel, by decide +kernel⟩, by decide⟩
theorem ls_X2_96 : LO9 RX2 96 yX2_isLastDigitOfTicks cX2_isLastDigitOfTicks 2 (some .boolean) 2 := ⟨w9_219, w9_220, w9_45, w9_221, ⟨by decide +kernel, by decide +kernel, by decide +kernel⟩, by decide⟩
theorem ls_X2_88 : LO9 RX2 88 yX2_isAllowed cX2_isAllowed 4 (some .boolean) 4 := ⟨w9_213, w9_214, w9_45, w9_215, ⟨by decide +kernel, by decide +kernel, by decide +kernel⟩, by decide⟩
theorem lv_X2_60 : LV9 RX2 60 2 yX2_wrongSignOf cX2_wrongSignOf 5 (some .int) 1 := ⟨by decide, ⟨_, _, rfl⟩, w9_206, w9_208, w9_1, w9_45, w9_209, ⟨by decide +kernel, by decide +kernel, by decide +kernel⟩, by decide⟩
theorem lv_X2_63 : LV9 RX2 63 2 yX2_commandLength cX2_commandLength 3 (some .int) 1 := ⟨by decide, ⟨_, _, rfl⟩, w9_225, w9_227, w9_2, w9_45, w9_228, ⟨by decide +kernel, by decide +kernel, by decide +kernel⟩, by decide⟩
theorem lv_X2_66 : LV9 RX2 66 2 yX2_errorPosition cX2_errorPosition 4 (some .int) 0 := ⟨by decide, ⟨_, _, rfl⟩, w9_329, w9_199, w9_200, w9_45, w9_201, ⟨by decide +kernel, by decide +kernel, by decide +kernel⟩, by decide⟩
theorem lv_X2_72 : LV9 RX2 72 0 yX0_clear cX0_clear 1 none 0 := ⟨by decide, ⟨_, _, rfl⟩, w9_331, w9_145, w9_146, w9_46, w9_147, ⟨by decide +kernel, by decide +kernel, by decide +kernel⟩, by decide⟩
theorem lv_X2_75 : LV9 RX2 75 2 yX2_forgetAll cX2_forgetAll 1 none 0 := ⟨by decide, ⟨_, _, rfl⟩, w9_332, w9_334, w9_4, w9_45, w9_335, ⟨by decide +kernel, by decide +kernel, by decide +kernel⟩, by decide⟩
theorem fl_X2_40 : FL9 RX2 40 2 8 TX2 9 := ⟨rfl, by decide, inG_X2, w9_174, ⟨tyX2, tyX2_ok⟩, nmX2⟩
theorem fr_X2_8 : FR9 2 8 46 := fun ca a n m => ⟨_, rfl, rfl⟩
theorem lv_X2_78 : LV9 RX2 78 2 yX2_doCommand cX2_doCommand 2 (some .boolean) 1 := ⟨by decide, ⟨_, _, rfl⟩, w9_336, w9_338, w9_5, w9_45, w9_339, ⟨by decide +kernel, by decide +kernel, by decide +kernel⟩, by decide⟩
theorem lv_L_17 : LV9 RL 17 2 yX2_load cX2_load 4 (some .int) 0 := ⟨by decide, ⟨_, _, rfl⟩, w9_325, w9_326, w9_327, w9_45, w9_328, ⟨by decide +kernel, by decide +kernel, by decide +kernel⟩, by decide⟩
theorem lv_L_47 : LV9 RL 47 2 yX2_loop cX2_loop 3 (some .int) 2 := ⟨by decide, ⟨_, _, rfl⟩, w9_581, w9_582, w9_583, w9_45, w9_584, ⟨by decide +kernel, by decide +kernel, by decide +kernel⟩, by decide⟩
theorem lv_X2_200 : LV9 RX2 200 1 yX1_canBeMended cX1_canBeMended 1 (some .boolean) 0 := ⟨by decide, ⟨_, _, rfl⟩, w9_592, w9_385, w9_386, w9_47, w9_387, ⟨by decide +kernel, by decide +kernel, by decide +kernel⟩, by decide⟩
theorem fl_X2_205 : FL9 RX2 205 1 6 TX1 17 := ⟨rfl, by decide, inG_X1, w9_91, ⟨tyX1, tyX1_ok⟩, nmX1⟩
theorem lv_L_51 : LV9 RL 51 2 yX2_mend cX2_mend 2 (some .int) 1 := ⟨by decide, ⟨_, _, rfl⟩, w9_588, w9_589, w9_590, w9_45, w9_591, ⟨by decide +kernel, by decide +kernel, by decide +kernel⟩, by decide⟩
theorem ls_X2_272 : LO9 RX2 272 yX2_checkSlot cX2_checkSlot 1 none 1 := ⟨w9_714, w9_715, w9_45, w9_716, ⟨by decide +kernel, by decide +kernel, by decide +kernel⟩, by decide⟩
theorem fl_X2_37 : FL9 RX2 37 2 7 TX2 9 := ⟨rfl, by decide, inG_X2, w9_173, ⟨tyX2, tyX2_ok⟩, nmX2⟩
theorem fr_X2_7 : FR9 2 7 45 := fun ca a n m => ⟨_, rfl, rfl⟩
theorem lv_L_89 : LV9 RL 89 2 yX2_restore cX2_restore 2 (some .int) 1 := ⟨by decide, ⟨_, _, rfl⟩, w9_721, w9_722, w9_723, w9_45, w9_724, ⟨by decide +kernel, by decide +kernel, by decide +kernel⟩, by decide⟩
theorem lv_L_54 : LV9 RL 54 2 yX2_run cX2_run 3 (some .int) 1 := ⟨by decide, ⟨_, _, rfl⟩, w9_597, w9_598, w9_599, w9_45, w9_600, ⟨by decide +kernel, by decide +kernel, by decide +kernel⟩, by decide⟩
theorem ln_X0_66 : LN9 RX0 66 yX2_isSetting cX2_isSetting 2 (some .boolean) 2 "LorryArms" := ⟨by decide +kernel, w9_610, w9_45, w9_611, ⟨by decide +kernel, by decide +kernel, by decide +kernel⟩, by decide⟩
theorem lv_X2_215 : LV9 RX2 215 0 yX0_changeSetting cX0_changeSetting 3 (some .boolean) 2 := ⟨by decide, ⟨_, _, rfl⟩, w9_613, w9_614, w9_615, w9_46, w9_616, ⟨by decide +kernel, by decide +kernel, by decide +kernel⟩, by decide⟩
theorem lv_X2_163 : LV9 RX2 163 1 yX1_reason cX1_reason 1 (some .int) 0 := ⟨by decide, ⟨_, _, rfl⟩, w9_534, w9_425, w9_426, w9_47, w9_427, ⟨by decide +kernel, by decide +kernel, by decide +kernel⟩, by decide⟩
theorem ls_X2_247 : LO9 RX2 247 yX2_withoutGroups cX2_withoutGroups 6 (some .long) 2 := ⟨w9_683, w9_684, w9_45, w9_685, ⟨by decide +kernel, by decide +kernel, by decide +kernel⟩, by decide⟩
theorem lv_X2_255 : LV9 RX2 255 2 yX2_doGroup cX2_doGroup 6 (some .boolean) 1 := ⟨by decide, ⟨_, _, rfl⟩, w9_688, w9_690, w9_27, w9_45, w9_691, ⟨by decide +kernel, by decide +kernel, by decide +kernel⟩, by decide⟩
theorem lv_L_78 : LV9 RL 78 2 yX2_runScript cX2_runScript 5 (some .int) 2 := ⟨by decide, ⟨_, _, rfl⟩, w9_678, w9_679, w9_680, w9_45, w9_681, ⟨by decide +kernel, by decide +kernel, by decide +kernel⟩, by decide⟩
theorem lv_L_86 : LV9 RL 86 2 yX2_save cX2_save 2 (some .int) 1 := ⟨by decide, ⟨_, _, rfl⟩, w9_710, w9_711, w9_712, w9_45, w9_713, ⟨by decide +kernel, by decide +kernel, by decide +kernel⟩, by decide⟩
theorem ls_X2_210 : LO9 RX2 210 yX2_isSetting cX2_isSetting 2 (some .boolean) 2 := ⟨w9_609, w9_610, w9_45, w9_611, ⟨by decide +kernel, by decide +kernel, by decide +kernel⟩, by decide⟩
theorem lv_L_57 : LV9 RL 57 2 yX2_set cX2_set 4 (some .int) 2 := ⟨by decide, ⟨_, _, rfl⟩, w9_605, w9_606, w9_607, w9_45, w9_608, ⟨by decide +kernel, by decide +kernel, by decide +kernel⟩, by decide⟩
theorem lv_L_37 : LV9 RL 37 2 yX2_setting cX2_setting 2 (some .int) 1 := ⟨by decide, ⟨_, _, rfl⟩, w9_538, w9_539, w9_540, w9_45, w9_541, ⟨by decide +kernel, by decide +kernel, by decide +kernel⟩, by decide⟩
theorem lv_X2_264 : LV9 RX2 264 2 yX2_doTurn cX2_doTurn 3 none 1 := ⟨by decide, ⟨_, _, rfl⟩, w9_702, w9_704, w9_28, w9_45, w9_705, ⟨by decide +kernel, by decide +kernel, by decide +kernel⟩, by decide⟩
theorem lv_L_82 : LV9 RL 82 2 yX2_simulate cX2_simulate 9 (some .int) 2 := ⟨by decide, ⟨_, _, rfl⟩, w9_695, w9_696, w9_697, w9_45, w9_698, ⟨by decide +kernel, by decide +kernel, by decide +kernel⟩, by decide⟩
theorem lv_X2_180 : LV9 RX2 180 1 yX1_hasVehicle cX1_hasVehicle 2 (some .boolean) 1 := ⟨by decide, ⟨_, _, rfl⟩, w9_516, w9_517, w9_518, w9_47, w9_519, ⟨by decide +kernel, by decide +kernel, by decide +kernel⟩, by decide⟩
theorem lv_X2_153 : LV9 RX2 153 2 yX2_checkVehicle cX2_checkVehicle 3 none 2 := ⟨by decide, ⟨_, _, rfl⟩, w9_512, w9_514, w9_24, w9_45, w9_515, ⟨by decide +kernel, by decide +kernel, by decide +kernel⟩, by decide⟩
theorem lv_L_66 : LV9 RL 66 2 yX2_throughIn cX2_throughIn 3 (some .int) 2 := ⟨by decide, ⟨_, _, rfl⟩, w9_637, w9_638, w9_639, w9_45, w9_640, ⟨by decide +kernel, by decide +kernel, by decide +kernel⟩, by decide⟩
theorem lv_L_60 : LV9 RL 60 2 yX2_undo cX2_undo 1 (some .int) 0 := ⟨by decide, ⟨_, _, rfl⟩, w9_621, w9_622, w9_623, w9_45, w9_624, ⟨by decide +kernel, by decide +kernel, by decide +kernel⟩, by decide⟩
theorem lv_X2_159 : LV9 RX2 159 1 yX1_numberOfVehicle cX1_numberOfVehicle 3 (some .int) 2 := ⟨by decide, ⟨_, _, rfl⟩, w9_522, w9_523, w9_524, w9_47, w9_525, ⟨by decide +kernel, by decide +kernel, by decide +kernel⟩, by decide⟩
theorem lv_L_30 : LV9 RL 30 2 yX2_vehicle cX2_vehicle 4 (some .int) 3 := ⟨by decide, ⟨_, _, rfl⟩, w9_508, w9_509, w9_510, w9_45, w9_511, ⟨by decide +kernel, by decide +kernel, by decide +kernel⟩, by decide⟩
theorem lv_L_34 : LV9 RL 34 2 yX2_why cX2_why 2 (some .int) 1 := ⟨by decide, ⟨_, _, rfl⟩, w9_530, w9_531, w9_532, w9_45, w9_533, ⟨by decide +kernel, by decide +kernel, by decide +kernel⟩, by decide⟩
theorem fl_X3_36 : FL9 RX3 36 3 0 TX3 13 := ⟨rfl, by decide, inG_X3, w9_735, ⟨tyX3, tyX3_ok⟩, nmX3⟩
theorem fi_X3_0 : FI9 3 0 := fun ca a n m => ⟨_, rfl, rfl, Nat.le_of_ble_eq_true rfl, fun v => rfl⟩
theorem ls_X3_48 : LO9 RX3 48 yX3_of cX3_of 3 (some .int) 3 := ⟨w9_841, w9_842, w9_48, w9_843, ⟨by decide +kernel, by decide +kernel, by decide +kernel⟩, by decide⟩
theorem ls_X3_40 : LO9 RX3 40 yX3_in cX3_in 6 (some .boolean) 3 := ⟨w9_784, w9_785, w9_48, w9_786, ⟨by decide +kernel, by decide +kernel, by decide +kernel⟩, by decide⟩
theorem lv_X3_130 : LV9 RX3 130 3 yX3_refused cX3_refused 2 (some .boolean) 1 := ⟨by decide, ⟨_, _, rfl⟩, w9_787, w9_789, w9_29, w9_48, w9_790, ⟨by decide +kernel, by decide +kernel, by decide +kernel⟩, by decide⟩
theorem fl_X3_13 : FL9 RX3 13 3 3 TX3 13 := ⟨rfl, by decide, inG_X3, w9_738, ⟨tyX3, tyX3_ok⟩, nmX3⟩
theorem fr_X3_3 : FR9 3 3 2 := fun ca a n m => ⟨_, rfl, rfl⟩
theorem ls_X3_118 : LO9 RX3 118 yX3_sum cX3_sum 4 (some .int) 2 := ⟨w9_859, w9_860, w9_48, w9_861, ⟨by decide +kernel, by decide +kernel, by decide +kernel⟩, by decide⟩
theorem fl_X3_127 : FL9 RX3 127 3 2 TX3 13 := ⟨rfl, by decide, inG_X3, w9_737, ⟨tyX3, tyX3_ok⟩, nmX3⟩
theorem fi_X3_2 : FI9 3 2 := fun ca a n m => ⟨_, rfl, rfl, Nat.le_of_ble_eq_true rfl, fun v => rfl⟩
theorem fl_X3_7 : FL9 RX3 7 3 1 TX3 13 := ⟨rfl, by decide, inG_X3, w9_736, ⟨tyX3, tyX3_ok⟩, nmX3⟩
theorem fr_X3_1 : FR9 3 1 1 := fun ca a n m => ⟨_, rfl, rfl⟩
theorem ls_X3_52 : LO9 RX3 52 yX3_place cX3_place 2 (some .int) 2 := ⟨w9_853, w9_854, w9_48, w9_855, ⟨by decide +kernel, by decide +kernel, by decide +kernel⟩, by decide⟩
theorem ls_X3_56 : LO9 RX3 56 yX3_told cX3_told 4 (some .int) 4 := ⟨w9_850, w9_851, w9_48, w9_852, ⟨by decide +kernel, by decide +kernel, by decide +kernel⟩, by decide⟩
theorem ls_X3_60 : LO9 RX3 60 yX3_last cX3_last 3 (some .int) 3 := ⟨w9_847, w9_848, w9_48, w9_849, ⟨by decide +kernel, by decide +kernel, by decide +kernel⟩, by decide⟩
theorem ls_X3_67 : LO9 RX3 67 yX3_lay cX3_lay 4 none 4 := ⟨w9_814, w9_815, w9_48, w9_816, ⟨by decide +kernel, by decide +kernel, by decide +kernel⟩, by decide⟩
theorem ls_X3_44 : LO9 RX3 44 yX3_isLane cX3_isLane 2 (some .boolean) 2 := ⟨w9_833, w9_834, w9_48, w9_835, ⟨by decide +kernel, by decide +kernel, by decide +kernel⟩, by decide⟩
theorem ls_X3_114 : LO9 RX3 114 yX3_isLength cX3_isLength 1 (some .boolean) 1 := ⟨w9_836, w9_837, w9_48, w9_838, ⟨by decide +kernel, by decide +kernel, by decide +kernel⟩, by decide⟩
theorem fl_X3_191 : FL9 RX3 191 3 6 TX3 13 := ⟨rfl, by decide, inG_X3, w9_741, ⟨tyX3, tyX3_ok⟩, nmX3⟩
theorem fi_X3_6 : FI9 3 6 := fun ca a n m => ⟨_, rfl, rfl, Nat.le_of_ble_eq_true rfl, fun v => rfl⟩
theorem fl_X3_19 : FL9 RX3 19 3 5 TX3 13 := ⟨rfl, by decide, inG_X3, w9_740, ⟨tyX3, tyX3_ok⟩, nmX3⟩
theorem fr_X3_5 : FR9 3 5 4 := fun ca a n m => ⟨_, rfl, rfl⟩
theorem ls_X3_187 : LO9 RX3 187 yX3_copyState cX3_copyState 5 none 4 := ⟨w9_915, w9_916, w9_48, w9_917, ⟨by decide +kernel, by decide +kernel, by decide +kernel⟩, by decide⟩
theorem ls_X3_160 : LO9 RX3 160 yX3_canArrive cX3_canArrive 3 (some .boolean) 3 := ⟨w9_830, w9_831, w9_48, w9_832, ⟨by decide +kernel, by decide +kernel, by decide +kernel⟩, by decide⟩
theorem lv_X3_204 : LV9 RX3 204 3 yX3_remember cX3_remember 2 none 0 := ⟨by decide, ⟨_, _, rfl⟩, w9_950, w9_952, w9_40, w9_48, w9_953, ⟨by decide +kernel, by decide +kernel, by decide +kernel⟩, by decide⟩
theorem ls_X3_163 : LO9 RX3 163 yX3_arriveOn cX3_arriveOn 7 (some .int) 5 := ⟨w9_844, w9_845, w9_48, w9_846, ⟨by decide +kernel, by decide +kernel, by decide +kernel⟩, by decide⟩
theorem ls_X3_79 : LO9 RX3 79 yX3_checked cX3_checked 3 (some .int) 2 := ⟨w9_895, w9_896, w9_48, w9_897, ⟨by decide +kernel, by decide +kernel, by decide +kernel⟩, by decide⟩
theorem fl_X3_29 : FL9 RX3 29 3 9 TX3 13 := ⟨rfl, by decide, inG_X3, w9_744, ⟨tyX3, tyX3_ok⟩, nmX3⟩
theorem fr_X3_9 : FR9 3 9 7 := fun ca a n m => ⟨_, rfl, rfl⟩
theorem ls_X3_63 : LO9 RX3 63 yX3_covers cX3_covers 4 (some .boolean) 4 := ⟨w9_868, w9_869, w9_48, w9_870, ⟨by decide +kernel, by decide +kernel, by decide +kernel⟩, by decide⟩
theorem ls_X3_86 : LO9 RX3 86 yX3_isCovered cX3_isCovered 3 (some .boolean) 2 := ⟨w9_865, w9_866, w9_48, w9_867, ⟨by decide +kernel, by decide +kernel, by decide +kernel⟩, by decide⟩
theorem ls_X3_75 : LO9 RX3 75 yX3_dropFirst cX3_dropFirst 3 none 2 := ⟨w9_889, w9_890, w9_48, w9_891, ⟨by decide +kernel, by decide +kernel, by decide +kernel⟩, by decide⟩
theorem ls_X3_71 : LO9 RX3 71 yX3_canMove cX3_canMove 4 (some .boolean) 3 := ⟨w9_886, w9_887, w9_48, w9_888, ⟨by decide +kernel, by decide +kernel, by decide +kernel⟩, by decide⟩
theorem ls_X3_83 : LO9 RX3 83 yX3_reason cX3_reason 6 (some .int) 2 := ⟨w9_901, w9_902, w9_48, w9_903, ⟨by decide +kernel, by decide +kernel, by decide +kernel⟩, by decide⟩
theorem lv_X3_89 : LV9 RX3 89 3 yX3_moveAll cX3_moveAll 4 none 2 := ⟨by decide, ⟨_, _, rfl⟩, w9_882, w9_884, w9_38, w9_48, w9_885, ⟨by decide +kernel, by decide +kernel, by decide +kernel⟩, by decide⟩
theorem ls_X3_92 : LO9 RX3 92 yX3_check cX3_check 6 none 2 := ⟨w9_892, w9_893, w9_48, w9_894, ⟨by decide +kernel, by decide +kernel, by decide +kernel⟩, by decide⟩
theorem ls_X3_95 : LO9 RX3 95 yX3_turnArm cX3_turnArm 4 none 2 := ⟨w9_898, w9_899, w9_48, w9_900, ⟨by decide +kernel, by decide +kernel, by decide +kernel⟩, by decide⟩
theorem fl_X3_98 : FL9 RX3 98 3 10 TX3 13 := ⟨rfl, by decide, inG_X3, w9_745, ⟨tyX3, tyX3_ok⟩, nmX3⟩
theorem fi_X3_10 : FI9 3 10 := fun ca a n m => ⟨_, rfl, rfl, Nat.le_of_ble_eq_true rfl, fun v => rfl⟩
theorem ls_X3_101 : LO9 RX3 101 yX3_hit cX3_hit 2 none 2 := ⟨w9_904, w9_905, w9_48, w9_906, ⟨by decide +kernel, by decide +kernel, by decide +kernel⟩, by decide⟩
theorem lv_X3_104 : LV9 RX3 104 3 yX3_goThrough cX3_goThrough 6 none 2 := ⟨by decide, ⟨_, _, rfl⟩, w9_907, w9_909, w9_39, w9_48, w9_910, ⟨by decide +kernel, by decide +kernel, by decide +kernel⟩, by decide⟩
theorem lv_X3_107 : LV9 RX3 107 3 yX3_tickOn cX3_tickOn 3 none 1 := ⟨by decide, ⟨_, _, rfl⟩, w9_878, w9_880, w9_37, w9_48, w9_881, ⟨by decide +kernel, by decide +kernel, by decide +kernel⟩, by decide⟩
theorem fl_X3_16 : FL9 RX3 16 3 4 TX3 13 := ⟨rfl, by decide, inG_X3, w9_739, ⟨tyX3, tyX3_ok⟩, nmX3⟩
theorem fr_X3_4 : FR9 3 4 3 := fun ca a n m => ⟨_, rfl, rfl⟩
theorem lv_X3_211 : LV9 RX3 211 3 yX3_through cX3_through 7 (some .int) 3 := ⟨by decide, ⟨_, _, rfl⟩, w9_991, w9_993, w9_41, w9_48, w9_994, ⟨by decide +kernel, by decide +kernel, by decide +kernel⟩, by decide⟩
theorem lv_X3_177 : LV9 RX3 177 3 yX3_runOn cX3_runOn 5 (some .int) 2 := ⟨by decide, ⟨_, _, rfl⟩, w9_874, w9_876, w9_36, w9_48, w9_877, ⟨by decide +kernel, by decide +kernel, by decide +kernel⟩, by decide⟩
theorem fl_X3_142 : FL9 RX3 142 3 12 TX3 13 := ⟨rfl, by decide, inG_X3, w9_747, ⟨tyX3, tyX3_ok⟩, nmX3⟩
theorem fi_X3_12 : FI9 3 12 := fun ca a n m => ⟨_, rfl, rfl, Nat.le_of_ble_eq_true rfl, fun v => rfl⟩
theorem fl_X3_133 : FL9 RX3 133 3 11 TX3 13 := ⟨rfl, by decide, inG_X3, w9_746, ⟨tyX3, tyX3_ok⟩, nmX3⟩
theorem fi_X3_11 : FI9 3 11 := fun ca a n m => ⟨_, rfl, rfl, Nat.le_of_ble_eq_true rfl, fun v => rfl⟩
theorem lv_X3_136 : LV9 RX3 136 3 yX3_at cX3_at 2 (some .int) 1 := ⟨by decide, ⟨_, _, rfl⟩, w9_803, w9_805, w9_31, w9_48, w9_806, ⟨by decide +kernel, by decide +kernel, by decide +kernel⟩, by decide⟩
theorem lv_X3_153 : LV9 RX3 153 3 yX3_figures cX3_figures 9 (some .int) 4 := ⟨by decide, ⟨_, _, rfl⟩, w9_821, w9_823, w9_34, w9_48, w9_824, ⟨by decide +kernel, by decide +kernel, by decide +kernel⟩, by decide⟩
theorem ls_X3_167 : LO9 RX3 167 yX3_loopOn cX3_loopOn 3 (some .int) 3 := ⟨w9_856, w9_857, w9_48, w9_858, ⟨by decide +kernel, by decide +kernel, by decide +kernel⟩, by decide⟩
theorem ls_X3_145 : LO9 RX3 145 yX3_laneOn cX3_laneOn 3 (some .int) 1 := ⟨w9_811, w9_812, w9_48, w9_813, ⟨by decide +kernel, by decide +kernel, by decide +kernel⟩, by decide⟩
theorem ls_X3_171 : LO9 RX3 171 yX3_canMend cX3_canMend 2 (some .boolean) 2 := ⟨w9_862, w9_863, w9_48, w9_864, ⟨by decide +kernel, by decide +kernel, by decide +kernel⟩, by decide⟩
theorem ls_X3_174 : LO9 RX3 174 yX3_mendOn cX3_mendOn 2 (some .int) 2 := ⟨w9_871, w9_872, w9_48, w9_873, ⟨by decide +kernel, by decide +kernel, by decide +kernel⟩, by decide⟩
theorem lv_X3_157 : LV9 RX3 157 3 yX3_sign cX3_sign 3 (some .boolean) 1 := ⟨by decide, ⟨_, _, rfl⟩, w9_826, w9_828, w9_35, w9_48, w9_829, ⟨by decide +kernel, by decide +kernel, by decide +kernel⟩, by decide⟩
theorem lv_X3_149 : LV9 RX3 149 3 yX3_done cX3_done 2 (some .boolean) 1 := ⟨by decide, ⟨_, _, rfl⟩, w9_817, w9_819, w9_33, w9_48, w9_820, ⟨by decide +kernel, by decide +kernel, by decide +kernel⟩, by decide⟩
theorem ls_X3_32 : LO9 RX3 32 yX3_clear cX3_clear 2 none 1 := ⟨w9_732, w9_733, w9_48, w9_734, ⟨by decide +kernel, by decide +kernel, by decide +kernel⟩, by decide⟩
theorem lv_X3_180 : LV9 RX3 180 3 yX3_readCommand cX3_readCommand 7 (some .boolean) 1 := ⟨by decide, ⟨_, _, rfl⟩, w9_807, w9_809, w9_32, w9_48, w9_810, ⟨by decide +kernel, by decide +kernel, by decide +kernel⟩, by decide⟩
theorem lv_X3_184 : LV9 RX3 184 3 yX3_readText cX3_readText 2 (some .int) 1 := ⟨by decide, ⟨_, _, rfl⟩, w9_799, w9_801, w9_30, w9_48, w9_802, ⟨by decide +kernel, by decide +kernel, by decide +kernel⟩, by decide⟩
theorem fl_X3_25 : FL9 RX3 25 3 8 TX3 13 := ⟨rfl, by decide, inG_X3, w9_743, ⟨tyX3, tyX3_ok⟩, nmX3⟩
theorem fr_X3_8 : FR9 3 8 6 := fun ca a n m => ⟨_, rfl, rfl⟩
theorem fl_X3_22 : FL9 RX3 22 3 7 TX3 13 := ⟨rfl, by decide, inG_X3, w9_742, ⟨tyX3, tyX3_ok⟩, nmX3⟩
theorem fr_X3_7 : FR9 3 7 5 := fun ca a n m => ⟨_, rfl, rfl⟩
theorem ls_X3_207 : LO9 RX3 207 yX3_isSetting cX3_isSetting 2 (some .boolean) 2 := ⟨w9_975, w9_976, w9_48, w9_977, ⟨by decide +kernel, by decide +kernel, by decide +kernel⟩, by decide⟩
theorem ls_X3_201 : LO9 RX3 201 yX3_whyOf cX3_whyOf 2 (some .int) 2 := ⟨w9_939, w9_940, w9_48, w9_941, ⟨by decide +kernel, by decide +kernel, by decide +kernel⟩, by decide⟩
theorem lv_X3_220 : LV9 RX3 220 3 yX3_command cX3_command 7 (some .boolean) 2 := ⟨by decide, ⟨_, _, rfl⟩, w9_1014, w9_1016, w9_42, w9_48, w9_1017, ⟨by decide +kernel, by decide +kernel, by decide +kernel⟩, by decide⟩
theorem lv_X3_227 : LV9 RX3 227 3 yX3_turn cX3_turn 5 none 1 := ⟨by decide, ⟨_, _, rfl⟩, w9_1024, w9_1026, w9_43, w9_48, w9_1027, ⟨by decide +kernel, by decide +kernel, by decide +kernel⟩, by decide⟩
theorem ls_X3_196 : LO9 RX3 196 yX3_isVehicle cX3_isVehicle 3 (some .boolean) 3 := ⟨w9_931, w9_932, w9_48, w9_933, ⟨by decide +kernel, by decide +kernel, by decide +kernel⟩, by decide⟩
theorem lw_L_96 : LW9 RL 96 yL_append cL_append 4 (some .int) [(0, 9, 12, 13), (0, 9, 15, 15)] 3 := ⟨w9_229, w9_230, w9_44, w9_231, ⟨by decide +kernel, by decide +kernel, by decide +kernel⟩, by decide⟩
theorem lv_L_101 : LV9 RL 101 3 yX3_append cX3_append 2 (some .int) 1 := ⟨by decide, ⟨_, _, rfl⟩, w9_779, w9_780, w9_781, w9_48, w9_782, ⟨by decide +kernel, by decide +kernel, by decide +kernel⟩, by decide⟩
theorem lv_L_102 : LV9 RL 102 3 yX3_thrown cX3_thrown 1 (some .int) 0 := ⟨by decide, ⟨_, _, rfl⟩, w9_775, w9_776, w9_777, w9_48, w9_778, ⟨by decide +kernel, by decide +kernel, by decide +kernel⟩, by decide⟩
theorem lv_L_105 : LV9 RL 105 2 yX2_clearText cX2_clearText 2 (some .int) 0 := ⟨by decide, ⟨_, _, rfl⟩, w9_194, w9_195, w9_196, w9_45, w9_197, ⟨by decide +kernel, by decide +kernel, by decide +kernel⟩, by decide⟩
theorem lv_L_108 : LV9 RL 108 3 yX3_clearText cX3_clearText 2 (some .int) 0 := ⟨by decide, ⟨_, _, rfl⟩, w9_791, w9_792, w9_793, w9_48, w9_794, ⟨by decide +kernel, by decide +kernel, by decide +kernel⟩, by decide⟩
theorem lv_L_109 : LV9 RL 109 2 yX2_errorPosition cX2_errorPosition 4 (some .int) 0 := ⟨by decide, ⟨_, _, rfl⟩, w9_198, w9_199, w9_200, w9_45, w9_201, ⟨by decide +kernel, by decide +kernel, by decide +kernel⟩, by decide⟩
theorem lv_L_112 : LV9 RL 112 3 yX3_errorPosition cX3_errorPosition 1 (some .int) 0 := ⟨by decide, ⟨_, _, rfl⟩, w9_795, w9_796, w9_797, w9_48, w9_798, ⟨by decide +kernel, by decide +kernel, by decide +kernel⟩, by decide⟩
theorem lw_L_113 : LW9 RL 113 yL_load cL_load 3 (some .int) [(0, 8, 11, 15)] 2 := ⟨w9_322, w9_323, w9_44, w9_324, ⟨by decide +kernel, by decide +kernel, by decide +kernel⟩, by decide⟩
theorem lv_L_116 : LV9 RL 116 3 yX3_load cX3_load 1 (some .int) 0 := ⟨by decide, ⟨_, _, rfl⟩, w9_911, w9_912, w9_913, w9_48, w9_914, ⟨by decide +kernel, by decide +kernel, by decide +kernel⟩, by decide⟩
theorem lw_L_117 : LW9 RL 117 yL_about cL_about 4 (some .int) [(0, 9, 12, 13)] 3 := ⟨w9_451, w9_452, w9_44, w9_453, ⟨by decide +kernel, by decide +kernel, by decide +kernel⟩, by decide⟩
theorem lv_L_119 : LV9 RL 119 3 yX3_about cX3_about 2 (some .int) 1 := ⟨by decide, ⟨_, _, rfl⟩, w9_918, w9_919, w9_920, w9_48, w9_921, ⟨by decide +kernel, by decide +kernel, by decide +kernel⟩, by decide⟩
theorem lw_L_120 : LW9 RL 120 yL_laneOf cL_laneOf 5 (some .int) [(0, 10, 13, 28), (0, 10, 17, 13)] 4 := ⟨w9_467, w9_468, w9_44, w9_469, ⟨by decide +kernel, by decide +kernel, by decide +kernel⟩, by decide⟩
theorem lv_L_123 : LV9 RL 123 3 yX3_laneOf cX3_laneOf 5 (some .int) 2 := ⟨by decide, ⟨_, _, rfl⟩, w9_922, w9_923, w9_924, w9_48, w9_925, ⟨by decide +kernel, by decide +kernel, by decide +kernel⟩, by decide⟩
theorem lw_L_124 : LW9 RL 124 yL_vehicle cL_vehicle 6 (some .int) [(0, 12, 15, 28), (0, 12, 19, 13)] 5 := ⟨w9_505, w9_506, w9_44, w9_507, ⟨by decide +kernel, by decide +kernel, by decide +kernel⟩, by decide⟩
theorem lv_L_127 : LV9 RL 127 3 yX3_vehicle cX3_vehicle 4 (some .int) 3 := ⟨by decide, ⟨_, _, rfl⟩, w9_927, w9_928, w9_929, w9_48, w9_930, ⟨by decide +kernel, by decide +kernel, by decide +kernel⟩, by decide⟩
theorem lw_L_128 : LW9 RL 128 yL_why cL_why 4 (some .int) [(0, 9, 12, 28)] 3 := ⟨w9_527, w9_528, w9_44, w9_529, ⟨by decide +kernel, by decide +kernel, by decide +kernel⟩, by decide⟩
theorem lv_L_130 : LV9 RL 130 3 yX3_why cX3_why 2 (some .int) 1 := ⟨by decide, ⟨_, _, rfl⟩, w9_935, w9_936, w9_937, w9_48, w9_938, ⟨by decide +kernel, by decide +kernel, by decide +kernel⟩, by decide⟩
theorem lw_L_131 : LW9 RL 131 yL_setting cL_setting 4 (some .int) [(0, 9, 12, 13)] 3 := ⟨w9_535, w9_536, w9_44, w9_537, ⟨by decide +kernel, by decide +kernel, by decide +kernel⟩, by decide⟩
theorem lv_L_133 : LV9 RL 133 3 yX3_setting cX3_setting 2 (some .int) 1 := ⟨by decide, ⟨_, _, rfl⟩, w9_942, w9_943, w9_944, w9_48, w9_945, ⟨by decide +kernel, by decide +kernel, by decide +kernel⟩, by decide⟩
theorem lw_L_134 : LW9 RL 134 yL_lane cL_lane 3 (some .int) [(0, 8, 11, 15)] 2 := ⟨w9_543, w9_544, w9_44, w9_545, ⟨by decide +kernel, by decide +kernel, by decide +kernel⟩, by decide⟩
theorem lv_L_136 : LV9 RL 136 3 yX3_lane cX3_lane 1 (some .int) 0 := ⟨by decide, ⟨_, _, rfl⟩, w9_946, w9_947, w9_948, w9_48, w9_949, ⟨by decide +kernel, by decide +kernel, by decide +kernel⟩, by decide⟩
theorem lw_L_145 : LW9 RL 145 yL_mend cL_mend 4 (some .int) [(0, 9, 12, 28), (0, 9, 15, 15)] 3 := ⟨w9_585, w9_586, w9_44, w9_587, ⟨by decide +kernel, by decide +kernel, by decide +kernel⟩, by decide⟩
theorem lv_L_147 : LV9 RL 147 3 yX3_mend cX3_mend 2 (some .int) 1 := ⟨by decide, ⟨_, _, rfl⟩, w9_962, w9_963, w9_964, w9_48, w9_965, ⟨by decide +kernel, by decide +kernel, by decide +kernel⟩, by decide⟩
theorem lw_L_148 : LW9 RL 148 yL_run cL_run 4 (some .int) [(0, 9, 12, 13)] 3 := ⟨w9_594, w9_595, w9_44, w9_596, ⟨by decide +kernel, by decide +kernel, by decide +kernel⟩, by decide⟩
theorem lv_L_150 : LV9 RL 150 3 yX3_run cX3_run 2 (some .int) 1 := ⟨by decide, ⟨_, _, rfl⟩, w9_966, w9_967, w9_968, w9_48, w9_969, ⟨by decide +kernel, by decide +kernel, by decide +kernel⟩, by decide⟩
theorem lw_L_151 : LW9 RL 151 yL_set cL_set 5 (some .int) [(0, 10, 13, 13)] 4 := ⟨w9_602, w9_603, w9_44, w9_604, ⟨by decide +kernel, by decide +kernel, by decide +kernel⟩, by decide⟩
theorem lv_L_153 : LV9 RL 153 3 yX3_set cX3_set 4 (some .int) 2 := ⟨by decide, ⟨_, _, rfl⟩, w9_971, w9_972, w9_973, w9_48, w9_974, ⟨by decide +kernel, by decide +kernel, by decide +kernel⟩, by decide⟩
theorem lw_L_154 : LW9 RL 154 yL_undo cL_undo 3 (some .int) [(0, 8, 11, 15)] 2 := ⟨w9_618, w9_619, w9_44, w9_620, ⟨by decide +kernel, by decide +kernel, by decide +kernel⟩, by decide⟩
theorem lv_L_156 : LV9 RL 156 3 yX3_undo cX3_undo 1 (some .int) 0 := ⟨by decide, ⟨_, _, rfl⟩, w9_979, w9_980, w9_981, w9_48, w9_982, ⟨by decide +kernel, by decide +kernel, by decide +kernel⟩, by decide⟩
theorem lw_L_157 : LW9 RL 157 yL_emptyIn cL_emptyIn 4 (some .int) [(0, 9, 12, 28)] 3 := ⟨w9_626, w9_627, w9_44, w9_628, ⟨by decide +kernel, by decide +kernel, by decide +kernel⟩, by decide⟩
theorem lv_L_159 : LV9 RL 159 3 yX3_emptyIn cX3_emptyIn 3 (some .int) 1 := ⟨by decide, ⟨_, _, rfl⟩, w9_983, w9_984, w9_985, w9_48, w9_986, ⟨by decide +kernel, by decide +kernel, by decide +kernel⟩, by decide⟩
theorem lw_L_160 : LW9 RL 160 yL_throughIn cL_throughIn 5 (some .int) [(0, 10, 13, 28)] 4 := ⟨w9_634, w9_635, w9_44, w9_636, ⟨by decide +kernel, by decide +kernel, by decide +kernel⟩, by decide⟩
theorem lv_L_162 : LV9 RL 162 3 yX3_throughIn cX3_throughIn 3 (some .int) 2 := ⟨by decide, ⟨_, _, rfl⟩, w9_987, w9_988, w9_989, w9_48, w9_990, ⟨by decide +kernel, by decide +kernel, by decide +kernel⟩, by decide⟩
theorem lw_L_163 : LW9 RL 163 yL_bestLane cL_bestLane 4 (some .int) [(0, 9, 12, 13)] 3 := ⟨w9_649, w9_650, w9_44, w9_651, ⟨by decide +kernel, by decide +kernel, by decide +kernel⟩, by decide⟩
theorem lv_L_165 : LV9 RL 165 3 yX3_bestLane cX3_bestLane 7 (some .int) 1 := ⟨by decide, ⟨_, _, rfl⟩, w9_995, w9_996, w9_997, w9_48, w9_998, ⟨by decide +kernel, by decide +kernel, by decide +kernel⟩, by decide⟩
theorem lw_L_166 : LW9 RL 166 yL_coming cL_coming 5 (some .int) [(0, 10, 13, 13)] 4 := ⟨w9_656, w9_657, w9_44, w9_658, ⟨by decide +kernel, by decide +kernel, by decide +kernel⟩, by decide⟩
theorem lv_L_168 : LV9 RL 168 3 yX3_coming cX3_coming 3 (some .int) 2 := ⟨by decide, ⟨_, _, rfl⟩, w9_999, w9_1000, w9_1001, w9_48, w9_1002, ⟨by decide +kernel, by decide +kernel, by decide +kernel⟩, by decide⟩
theorem lw_L_169 : LW9 RL 169 yL_hitsIn cL_hitsIn 4 (some .int) [(0, 9, 12, 28)] 3 := ⟨w9_668, w9_669, w9_44, w9_670, ⟨by decide +kernel, by decide +kernel, by decide +kernel⟩, by decide⟩
theorem lv_L_171 : LV9 RL 171 3 yX3_hitsIn cX3_hitsIn 3 (some .int) 1 := ⟨by decide, ⟨_, _, rfl⟩, w9_1004, w9_1005, w9_1006, w9_48, w9_1007, ⟨by decide +kernel, by decide +kernel, by decide +kernel⟩, by decide⟩
theorem lw_L_174 : LW9 RL 174 yL_runScript cL_runScript 6 (some .int) [(0, 11, 14, 13)] 4 := ⟨w9_675, w9_676, w9_44, w9_677, ⟨by decide +kernel, by decide +kernel, by decide +kernel⟩, by decide⟩
theorem lv_L_177 : LV9 RL 177 3 yX3_runScript cX3_runScript 8 (some .int) 2 := ⟨by decide, ⟨_, _, rfl⟩, w9_1008, w9_1009, w9_1010, w9_48, w9_1011, ⟨by decide +kernel, by decide +kernel, by decide +kernel⟩, by decide⟩
theorem lw_L_178 : LW9 RL 178 yL_simulate cL_simulate 6 (some .int) [(0, 11, 14, 13)] 4 := ⟨w9_692, w9_693, w9_44, w9_694, ⟨by decide +kernel, by decide +kernel, by decide +kernel⟩, by decide⟩
theorem lv_L_181 : LV9 RL 181 3 yX3_simulate cX3_simulate 7 (some .int) 2 := ⟨by decide, ⟨_, _, rfl⟩, w9_1018, w9_1019, w9_1020, w9_48, w9_1021, ⟨by decide +kernel, by decide +kernel, by decide +kernel⟩, by decide⟩
theorem lw_L_182 : LW9 RL 182 yL_save cL_save 4 (some .int) [(0, 9, 12, 28)] 3 := ⟨w9_707, w9_708, w9_44, w9_709, ⟨by decide +kernel, by decide +kernel, by decide +kernel⟩, by decide⟩
theorem lv_L_184 : LV9 RL 184 3 yX3_save cX3_save 2 (some .int) 1 := ⟨by decide, ⟨_, _, rfl⟩, w9_1028, w9_1029, w9_1030, w9_48, w9_1031, ⟨by decide +kernel, by decide +kernel, by decide +kernel⟩, by decide⟩
theorem lw_L_185 : LW9 RL 185 yL_restore cL_restore 4 (some .int) [(0, 9, 12, 28), (0, 9, 15, 15)] 3 := ⟨w9_718, w9_719, w9_44, w9_720, ⟨by decide +kernel, by decide +kernel, by decide +kernel⟩, by decide⟩
theorem lv_L_187 : LV9 RL 187 3 yX3_restore cX3_restore 2 (some .int) 1 := ⟨by decide, ⟨_, _, rfl⟩, w9_1032, w9_1033, w9_1034, w9_48, w9_1035, ⟨by decide +kernel, by decide +kernel, by decide +kernel⟩, by decide⟩
theorem lw_L_141 : LW9 RL 141 yL_loop cL_loop 5 (some .int) [(0, 10, 13, 28)] 4 := ⟨w9_578, w9_579, w9_44, w9_580, ⟨by decide +kernel, by decide +kernel, by decide +kernel⟩, by decide⟩
theorem lw_L_137 : LW9 RL 137 yL_arrive cL_arrive 7 (some .int) [(0, 14, 17, 28), (0, 14, 21, 13), (0, 14, 25, 15)] 6 := ⟨w9_566, w9_567, w9_44, w9_568, ⟨by decide +kernel, by decide +kernel, by decide +kernel⟩, by decide⟩
theorem lv_L_144 : LV9 RL 144 3 yX3_loop cX3_loop 3 (some .int) 2 := ⟨by decide, ⟨_, _, rfl⟩, w9_958, w9_959, w9_960, w9_48, w9_961, ⟨by decide +kernel, by decide +kernel, by decide +kernel⟩, by decide⟩
theorem lv_L_140 : LV9 RL 140 3 yX3_arrive cX3_arrive 5 (some .int) 4 := ⟨by decide, ⟨_, _, rfl⟩, w9_954, w9_955, w9_956, w9_48, w9_957, ⟨by decide +kernel, by decide +kernel, by decide +kernel⟩, by decide⟩
theorem tg_X2_48 : ∀ w ∈ (vx_atS RX2 48 "java/lang/IllegalArgumentException" names9).filter goodWord, w ∈ gw9 := by decide +kernel
theorem tg_X2_55 : ∀ w ∈ (vx_atS RX2 55 "java/lang/IllegalStateException" names9).filter goodWord, w ∈ gw9 := by decide +kernel
theorem tg_X2_179 : ∀ w ∈ (vx_atS RX2 179 "java/lang/IndexOutOfBoundsException" names9).filter goodWord, w ∈ gw9 := by decide +kernel
theorem th_X2_about_10 : TH9 RX2 cX2_about 10 "java/lang/IllegalArgumentException" := ⟨44, 127, 48, "what is 0 to 9", by decide +kernel, by decide +kernel, w9_238, w9_52, tg_X2_48, by decide +kernel, by decide +kernel, by decide +kernel, dX2_about_10, dX2_about_13, Or.inl ⟨dX2_about_14, dX2_about_16, dX2_about_19⟩⟩
theorem th_X2_append_11 : TH9 RX2 cX2_append 11 "java/lang/IllegalArgumentException" := ⟨44, 46, 48, "a character code is 0 to 255", by decide +kernel, by decide +kernel, w9_238, w9_52, tg_X2_48, by decide +kernel, by decide +kernel, by decide +kernel, dX2_append_11, dX2_append_14, Or.inl ⟨dX2_append_15, dX2_append_17, dX2_append_20⟩⟩
theorem th_X2_append_30 : TH9 RX2 cX2_append 30 "java/lang/IllegalStateException" := ⟨51, 53, 55, "the text is full", by decide +kernel, by decide +kernel, w9_306, w9_53, tg_X2_55, by decide +kernel, by decide +kernel, by decide +kernel, dX2_append_30, dX2_append_33, Or.inl ⟨dX2_append_34, dX2_append_36, dX2_append_39⟩⟩
theorem th_X2_checkLane_11 : TH9 RX2 cX2_checkLane 11 "java/lang/IndexOutOfBoundsException" := ⟨175, 177, 179, "there is no such lane", by decide +kernel, by decide +kernel, w9_480, w9_55, tg_X2_179, by decide +kernel, by decide +kernel, by decide +kernel, dX2_checkLane_11, dX2_checkLane_14, Or.inl ⟨dX2_checkLane_15, dX2_checkLane_17, dX2_checkLane_20⟩⟩
theorem th_X2_checkLength_11 : TH9 RX2 cX2_checkLength 11 "java/lang/IllegalArgumentException" := ⟨44, 185, 48, "a length is 2 to 12", by decide +kernel, by decide +kernel, w9_238, w9_52, tg_X2_48, by decide +kernel, by decide +kernel, by decide +kernel, dX2_checkLength_11, dX2_checkLength_14, Or.inl ⟨dX2_checkLength_15, dX2_checkLength_17, dX2_checkLength_20⟩⟩
theorem th_X2_arrive_26 : TH9 RX2 cX2_arrive 26 "java/lang/IllegalStateException" := ⟨51, 198, 55, "there are 6 vehicles in the lane", by decide +kernel, by decide +kernel, w9_306, w9_53, tg_X2_55, by decide +kernel, by decide +kernel, by decide +kernel, dX2_arrive_26, dX2_arrive_29, Or.inl ⟨dX2_arrive_30, dX2_arrive_32, dX2_arrive_35⟩⟩
theorem th_X2_coming_12 : TH9 RX2 cX2_coming 12 "java/lang/IllegalArgumentException" := ⟨44, 231, 48, "n is 1 to 400", by decide +kernel, by decide +kernel, w9_238, w9_52, tg_X2_48, by decide +kernel, by decide +kernel, by decide +kernel, dX2_coming_12, dX2_coming_15, Or.inl ⟨dX2_coming_16, dX2_coming_18, dX2_coming_21⟩⟩
theorem th_X2_coming_31 : TH9 RX2 cX2_coming 31 "java/lang/IllegalArgumentException" := ⟨44, 157, 48, "what is 0 to 4", by decide +kernel, by decide +kernel, w9_238, w9_52, tg_X2_48, by decide +kernel, by decide +kernel, by decide +kernel, dX2_coming_31, dX2_coming_34, Or.inl ⟨dX2_coming_35, dX2_coming_37, dX2_coming_40⟩⟩
theorem th_X2_lane_11 : TH9 RX2 cX2_lane 11 "java/lang/IllegalStateException" := ⟨51, 187, 55, "there are 3 lanes", by decide +kernel, by decide +kernel, w9_306, w9_53, tg_X2_55, by decide +kernel, by decide +kernel, by decide +kernel, dX2_lane_11, dX2_lane_14, Or.inl ⟨dX2_lane_15, dX2_lane_17, dX2_lane_20⟩⟩
theorem th_X2_laneOf_15 : TH9 RX2 cX2_laneOf 15 "java/lang/IllegalArgumentException" := ⟨44, 142, 48, "what is 0 to 7", by decide +kernel, by decide +kernel, w9_238, w9_52, tg_X2_48, by decide +kernel, by decide +kernel, by decide +kernel, dX2_laneOf_15, dX2_laneOf_18, Or.inl ⟨dX2_laneOf_19, dX2_laneOf_21, dX2_laneOf_24⟩⟩
theorem th_X2_load_8 : TH9 RX2 cX2_load 8 "java/lang/IllegalStateException" := ⟨51, 70, 55, "the text is not a gate", by decide +kernel, by decide +kernel, w9_306, w9_53, tg_X2_55, by decide +kernel, by decide +kernel, by decide +kernel, dX2_load_8, dX2_load_11, Or.inl ⟨dX2_load_12, dX2_load_14, dX2_load_17⟩⟩
theorem th_X2_mend_20 : TH9 RX2 cX2_mend 20 "java/lang/IllegalStateException" := ⟨51, 203, 55, "the arm is whole, or a vehicle is under it", by decide +kernel, by decide +kernel, w9_306, w9_53, tg_X2_55, by decide +kernel, by decide +kernel, by decide +kernel, dX2_mend_20, dX2_mend_23, Or.inl ⟨dX2_mend_24, dX2_mend_26, dX2_mend_29⟩⟩
theorem th_X2_checkSlot_9 : TH9 RX2 cX2_checkSlot 9 "java/lang/IndexOutOfBoundsException" := ⟨175, 277, 179, "a save slot is 0 or 1", by decide +kernel, by decide +kernel, w9_480, w9_55, tg_X2_179, by decide +kernel, by decide +kernel, by decide +kernel, dX2_checkSlot_9, dX2_checkSlot_12, Or.inr ⟨dX2_checkSlot_13, dX2_checkSlot_16, dX2_checkSlot_19⟩⟩
theorem th_X2_restore_13 : TH9 RX2 cX2_restore 13 "java/lang/IllegalStateException" := ⟨51, 275, 55, "nothing has been saved in this slot", by decide +kernel, by decide +kernel, w9_306, w9_53, tg_X2_55, by decide +kernel, by decide +kernel, by decide +kernel, dX2_restore_13, dX2_restore_16, Or.inr ⟨dX2_restore_17, dX2_restore_20, dX2_restore_23⟩⟩
theorem th_X2_run_11 : TH9 RX2 cX2_run 11 "java/lang/IllegalArgumentException" := ⟨44, 208, 48, "a run is 1 to 60 ticks", by decide +kernel, by decide +kernel, w9_238, w9_52, tg_X2_48, by decide +kernel, by decide +kernel, by decide +kernel, dX2_run_11, dX2_run_14, Or.inl ⟨dX2_run_15, dX2_run_17, dX2_run_20⟩⟩
theorem th_X2_runScript_10 : TH9 RX2 cX2_runScript 10 "java/lang/IllegalArgumentException" := ⟨44, 245, 48, "a script has 1 to 3 commands", by decide +kernel, by decide +kernel, w9_238, w9_52, tg_X2_48, by decide +kernel, by decide +kernel, by decide +kernel, dX2_runScript_10, dX2_runScript_13, Or.inl ⟨dX2_runScript_14, dX2_runScript_16, dX2_runScript_19⟩⟩
theorem th_X2_runScript_36 : TH9 RX2 cX2_runScript 36 "java/lang/IllegalArgumentException" := ⟨44, 251, 48, "the script is negative or too long", by decide +kernel, by decide +kernel, w9_238, w9_52, tg_X2_48, by decide +kernel, by decide +kernel, by decide +kernel, dX2_runScript_36, dX2_runScript_39, Or.inl ⟨dX2_runScript_40, dX2_runScript_42, dX2_runScript_45⟩⟩
theorem th_X2_set_8 : TH9 RX2 cX2_set 8 "java/lang/IllegalArgumentException" := ⟨44, 213, 48, "no setting, or a value out of its range", by decide +kernel, by decide +kernel, w9_238, w9_52, tg_X2_48, by decide +kernel, by decide +kernel, by decide +kernel, dX2_set_8, dX2_set_11, Or.inl ⟨dX2_set_12, dX2_set_14, dX2_set_17⟩⟩
theorem th_X2_setting_9 : TH9 RX2 cX2_setting 9 "java/lang/IllegalArgumentException" := ⟨44, 166, 48, "a setting is 0 to 2", by decide +kernel, by decide +kernel, w9_238, w9_52, tg_X2_48, by decide +kernel, by decide +kernel, by decide +kernel, dX2_setting_9, dX2_setting_12, Or.inl ⟨dX2_setting_13, dX2_setting_15, dX2_setting_18⟩⟩
theorem th_X2_simulate_11 : TH9 RX2 cX2_simulate 11 "java/lang/IllegalArgumentException" := ⟨44, 258, 48, "m is 1 to 60", by decide +kernel, by decide +kernel, w9_238, w9_52, tg_X2_48, by decide +kernel, by decide +kernel, by decide +kernel, dX2_simulate_11, dX2_simulate_14, Or.inr ⟨dX2_simulate_15, dX2_simulate_18, dX2_simulate_21⟩⟩
theorem th_X2_checkVehicle_21 : TH9 RX2 cX2_checkVehicle 21 "java/lang/IndexOutOfBoundsException" := ⟨175, 183, 179, "there is no such vehicle", by decide +kernel, by decide +kernel, w9_480, w9_55, tg_X2_179, by decide +kernel, by decide +kernel, by decide +kernel, dX2_checkVehicle_21, dX2_checkVehicle_24, Or.inl ⟨dX2_checkVehicle_25, dX2_checkVehicle_27, dX2_checkVehicle_30⟩⟩
theorem th_X2_undo_7 : TH9 RX2 cX2_undo 7 "java/lang/IllegalStateException" := ⟨51, 218, 55, "no state is remembered", by decide +kernel, by decide +kernel, w9_306, w9_53, tg_X2_55, by decide +kernel, by decide +kernel, by decide +kernel, dX2_undo_7, dX2_undo_10, Or.inl ⟨dX2_undo_11, dX2_undo_13, dX2_undo_16⟩⟩
theorem th_X2_vehicle_15 : TH9 RX2 cX2_vehicle 15 "java/lang/IllegalArgumentException" := ⟨44, 157, 48, "what is 0 to 4", by decide +kernel, by decide +kernel, w9_238, w9_52, tg_X2_48, by decide +kernel, by decide +kernel, by decide +kernel, dX2_vehicle_15, dX2_vehicle_18, Or.inl ⟨dX2_vehicle_19, dX2_vehicle_21, dX2_vehicle_24⟩⟩
