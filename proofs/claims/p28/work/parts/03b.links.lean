theorem fl_X1_31 : FL9 RX1 31 1 5 TX1 17 := ⟨rfl, by decide, inG_X1, w9_71, ⟨tyX1, tyX1_ok⟩, nmX1⟩
theorem fi_X1_5 : FI9 1 5 := fun ca a n m => ⟨_, rfl, rfl, Nat.le_of_ble_eq_true rfl, fun v => rfl⟩
theorem fl_X1_54 : FL9 RX1 54 1 12 TX1 17 := ⟨rfl, by decide, inG_X1, w9_83, ⟨tyX1, tyX1_ok⟩, nmX1⟩
theorem fi_X1_12 : FI9 1 12 := fun ca a n m => ⟨_, rfl, rfl, Nat.le_of_ble_eq_true rfl, fun v => rfl⟩
theorem fl_X1_57 : FL9 RX1 57 1 13 TX1 17 := ⟨rfl, by decide, inG_X1, w9_85, ⟨tyX1, tyX1_ok⟩, nmX1⟩
theorem fi_X1_13 : FI9 1 13 := fun ca a n m => ⟨_, rfl, rfl, Nat.le_of_ble_eq_true rfl, fun v => rfl⟩
theorem fl_X1_60 : FL9 RX1 60 1 14 TX1 17 := ⟨rfl, by decide, inG_X1, w9_86, ⟨tyX1, tyX1_ok⟩, nmX1⟩
theorem fi_X1_14 : FI9 1 14 := fun ca a n m => ⟨_, rfl, rfl, Nat.le_of_ble_eq_true rfl, fun v => rfl⟩
theorem fl_X1_63 : FL9 RX1 63 1 15 TX1 17 := ⟨rfl, by decide, inG_X1, w9_87, ⟨tyX1, tyX1_ok⟩, nmX1⟩
theorem fi_X1_15 : FI9 1 15 := fun ca a n m => ⟨_, rfl, rfl, Nat.le_of_ble_eq_true rfl, fun v => rfl⟩
theorem fl_X1_51 : FL9 RX1 51 1 11 TX1 17 := ⟨rfl, by decide, inG_X1, w9_81, ⟨tyX1, tyX1_ok⟩, nmX1⟩
theorem fi_X1_11 : FI9 1 11 := fun ca a n m => ⟨_, rfl, rfl, Nat.le_of_ble_eq_true rfl, fun v => rfl⟩
theorem fl_X1_47 : FL9 RX1 47 1 10 TX1 17 := ⟨rfl, by decide, inG_X1, w9_79, ⟨tyX1, tyX1_ok⟩, nmX1⟩
theorem fi_X1_10 : FI9 1 10 := fun ca a n m => ⟨_, rfl, rfl, Nat.le_of_ble_eq_true rfl, fun v => rfl⟩
theorem fl_X1_66 : FL9 RX1 66 1 16 TX1 17 := ⟨rfl, by decide, inG_X1, w9_89, ⟨tyX1, tyX1_ok⟩, nmX1⟩
theorem fi_X1_16 : FI9 1 16 := fun ca a n m => ⟨_, rfl, rfl, Nat.le_of_ble_eq_true rfl, fun v => rfl⟩
theorem fl_X0_25 : FL9 RX0 25 0 2 TX0 4 := ⟨rfl, by decide, inG_X0, w9_136, ⟨tyX0, tyX0_ok⟩, nmX0⟩
theorem fi_X0_2 : FI9 0 2 := fun ca a n m => ⟨_, rfl, rfl, Nat.le_of_ble_eq_true rfl, fun v => rfl⟩
theorem fl_X0_11 : FL9 RX0 11 0 0 TX0 4 := ⟨rfl, by decide, inG_X0, w9_132, ⟨tyX0, tyX0_ok⟩, nmX0⟩
theorem fr_X0_0 : FR9 0 0 1 := fun ca a n m => ⟨_, rfl, rfl⟩
theorem lv_X0_70 : LV9 RX0 70 1 yX1_tally cX1_tally 2 (some .int) 1 := ⟨by decide, ⟨_, _, rfl⟩, w9_447, w9_448, w9_449, w9_32, w9_450, ⟨by decide +kernel, by decide +kernel, by decide +kernel⟩, by decide⟩
theorem fl_X2_20 : FL9 RX2 20 2 2 TX2 9 := ⟨rfl, by decide, inG_X2, w9_152, ⟨tyX2, tyX2_ok⟩, nmX2⟩
theorem fr_X2_2 : FR9 2 2 2 := fun ca a n m => ⟨_, rfl, rfl⟩
theorem lv_X2_135 : LV9 RX2 135 0 yX0_total cX0_total 4 (some .int) 1 := ⟨by decide, ⟨_, _, rfl⟩, w9_443, w9_444, w9_445, w9_31, w9_446, ⟨by decide +kernel, by decide +kernel, by decide +kernel⟩, by decide⟩
theorem fl_X2_132 : FL9 RX2 132 0 3 TX0 4 := ⟨rfl, by decide, inG_X0, w9_139, ⟨tyX0, tyX0_ok⟩, nmX0⟩
theorem fi_X0_3 : FI9 0 3 := fun ca a n m => ⟨_, rfl, rfl, Nat.le_of_ble_eq_true rfl, fun v => rfl⟩
theorem fl_X2_129 : FL9 RX2 129 0 2 TX0 4 := ⟨rfl, by decide, inG_X0, w9_137, ⟨tyX0, tyX0_ok⟩, nmX0⟩
theorem lv_L_42 : LV9 RL 42 2 yX2_about cX2_about 2 (some .int) 1 := ⟨by decide, ⟨_, _, rfl⟩, w9_438, w9_439, w9_440, w9_30, w9_441, ⟨by decide +kernel, by decide +kernel, by decide +kernel⟩, by decide⟩
theorem fl_X1_35 : FL9 RX1 35 1 6 TX1 17 := ⟨rfl, by decide, inG_X1, w9_73, ⟨tyX1, tyX1_ok⟩, nmX1⟩
theorem fi_X1_6 : FI9 1 6 := fun ca a n m => ⟨_, rfl, rfl, Nat.le_of_ble_eq_true rfl, fun v => rfl⟩
theorem fl_X1_38 : FL9 RX1 38 1 7 TX1 17 := ⟨rfl, by decide, inG_X1, w9_76, ⟨tyX1, tyX1_ok⟩, nmX1⟩
theorem fi_X1_7 : FI9 1 7 := fun ca a n m => ⟨_, rfl, rfl, Nat.le_of_ble_eq_true rfl, fun v => rfl⟩
theorem fl_X1_41 : FL9 RX1 41 1 8 TX1 17 := ⟨rfl, by decide, inG_X1, w9_77, ⟨tyX1, tyX1_ok⟩, nmX1⟩
theorem fi_X1_8 : FI9 1 8 := fun ca a n m => ⟨_, rfl, rfl, Nat.le_of_ble_eq_true rfl, fun v => rfl⟩
theorem fl_X1_44 : FL9 RX1 44 1 9 TX1 17 := ⟨rfl, by decide, inG_X1, w9_78, ⟨tyX1, tyX1_ok⟩, nmX1⟩
theorem fi_X1_9 : FI9 1 9 := fun ca a n m => ⟨_, rfl, rfl, Nat.le_of_ble_eq_true rfl, fun v => rfl⟩
theorem lv_X0_42 : LV9 RX0 42 1 yX1_clear cX1_clear 1 none 0 := ⟨by decide, ⟨_, _, rfl⟩, w9_328, w9_63, w9_64, w9_32, w9_65, ⟨by decide +kernel, by decide +kernel, by decide +kernel⟩, by decide⟩
theorem fl_X1_9 : FL9 RX1 9 1 0 TX1 17 := ⟨rfl, by decide, inG_X1, w9_66, ⟨tyX1, tyX1_ok⟩, nmX1⟩
theorem fr_X1_0 : FR9 1 0 1 := fun ca a n m => ⟨_, rfl, rfl⟩
theorem fl_X1_15 : FL9 RX1 15 1 1 TX1 17 := ⟨rfl, by decide, inG_X1, w9_67, ⟨tyX1, tyX1_ok⟩, nmX1⟩
theorem fr_X1_1 : FR9 1 1 2 := fun ca a n m => ⟨_, rfl, rfl⟩
theorem fl_X1_18 : FL9 RX1 18 1 2 TX1 17 := ⟨rfl, by decide, inG_X1, w9_68, ⟨tyX1, tyX1_ok⟩, nmX1⟩
theorem fr_X1_2 : FR9 1 2 3 := fun ca a n m => ⟨_, rfl, rfl⟩
theorem fl_X1_22 : FL9 RX1 22 1 3 TX1 17 := ⟨rfl, by decide, inG_X1, w9_69, ⟨tyX1, tyX1_ok⟩, nmX1⟩
theorem fr_X1_3 : FR9 1 3 4 := fun ca a n m => ⟨_, rfl, rfl⟩
theorem fl_X1_25 : FL9 RX1 25 1 4 TX1 17 := ⟨rfl, by decide, inG_X1, w9_70, ⟨tyX1, tyX1_ok⟩, nmX1⟩
theorem fr_X1_4 : FR9 1 4 5 := fun ca a n m => ⟨_, rfl, rfl⟩
theorem lv_X1_69 : LV9 RX1 69 1 yX1_copyVehicle cX1_copyVehicle 4 none 3 := ⟨by decide, ⟨_, _, rfl⟩, w9_396, w9_398, w9_14, w9_32, w9_399, ⟨by decide +kernel, by decide +kernel, by decide +kernel⟩, by decide⟩
theorem fl_X0_29 : FL9 RX0 29 0 3 TX0 4 := ⟨rfl, by decide, inG_X0, w9_138, ⟨tyX0, tyX0_ok⟩, nmX0⟩
theorem fl_X0_17 : FL9 RX0 17 0 1 TX0 4 := ⟨rfl, by decide, inG_X0, w9_134, ⟨tyX0, tyX0_ok⟩, nmX0⟩
theorem fr_X0_1 : FR9 0 1 2 := fun ca a n m => ⟨_, rfl, rfl⟩
theorem lv_X0_38 : LV9 RX0 38 1 yX1_copyFrom cX1_copyFrom 3 none 1 := ⟨by decide, ⟨_, _, rfl⟩, w9_547, w9_548, w9_549, w9_32, w9_550, ⟨by decide +kernel, by decide +kernel, by decide +kernel⟩, by decide⟩
theorem fl_X2_27 : FL9 RX2 27 2 4 TX2 9 := ⟨rfl, by decide, inG_X2, w9_154, ⟨tyX2, tyX2_ok⟩, nmX2⟩
theorem fr_X2_4 : FR9 2 4 44 := fun ca a n m => ⟨_, rfl, rfl⟩
theorem fl_X2_31 : FL9 RX2 31 2 5 TX2 9 := ⟨rfl, by decide, inG_X2, w9_155, ⟨tyX2, tyX2_ok⟩, nmX2⟩
theorem fi_X2_5 : FI9 2 5 := fun ca a n m => ⟨_, rfl, rfl, Nat.le_of_ble_eq_true rfl, fun v => rfl⟩
theorem fl_X2_34 : FL9 RX2 34 2 6 TX2 9 := ⟨rfl, by decide, inG_X2, w9_156, ⟨tyX2, tyX2_ok⟩, nmX2⟩
theorem fi_X2_6 : FI9 2 6 := fun ca a n m => ⟨_, rfl, rfl, Nat.le_of_ble_eq_true rfl, fun v => rfl⟩
theorem lv_X2_220 : LV9 RX2 220 0 yX0_copyFrom cX0_copyFrom 3 none 1 := ⟨by decide, ⟨_, _, rfl⟩, w9_540, w9_541, w9_542, w9_31, w9_543, ⟨by decide +kernel, by decide +kernel, by decide +kernel⟩, by decide⟩
theorem lv_X2_189 : LV9 RX2 189 2 yX2_remember cX2_remember 1 none 0 := ⟨by decide, ⟨_, _, rfl⟩, w9_536, w9_538, w9_25, w9_30, w9_539, ⟨by decide +kernel, by decide +kernel, by decide +kernel⟩, by decide⟩
theorem lv_X2_103 : LV9 RX2 103 0 yX0_addLane cX0_addLane 1 (some .boolean) 0 := ⟨by decide, ⟨_, _, rfl⟩, w9_324, w9_325, w9_326, w9_31, w9_327, ⟨by decide +kernel, by decide +kernel, by decide +kernel⟩, by decide⟩
theorem lv_L_59 : LV9 RL 59 2 yX2_lane cX2_lane 1 (some .int) 0 := ⟨by decide, ⟨_, _, rfl⟩, w9_531, w9_532, w9_533, w9_30, w9_534, ⟨by decide +kernel, by decide +kernel, by decide +kernel⟩, by decide⟩
theorem fl_X2_13 : FL9 RX2 13 2 1 TX2 9 := ⟨rfl, by decide, inG_X2, w9_151, ⟨tyX2, tyX2_ok⟩, nmX2⟩
theorem fi_X2_1 : FI9 2 1 := fun ca a n m => ⟨_, rfl, rfl, Nat.le_of_ble_eq_true rfl, fun v => rfl⟩
theorem fl_X2_9 : FL9 RX2 9 2 0 TX2 9 := ⟨rfl, by decide, inG_X2, w9_150, ⟨tyX2, tyX2_ok⟩, nmX2⟩
theorem fr_X2_0 : FR9 2 0 1 := fun ca a n m => ⟨_, rfl, rfl⟩
theorem lv_L_34 : LV9 RL 34 2 yX2_append cX2_append 2 (some .int) 1 := ⟨by decide, ⟨_, _, rfl⟩, w9_186, w9_187, w9_188, w9_30, w9_189, ⟨by decide +kernel, by decide +kernel, by decide +kernel⟩, by decide⟩
theorem ls_X2_272 : LO9 RX2 272 yX2_checkSlot cX2_checkSlot 1 none 1 := ⟨w9_652, w9_653, w9_30, w9_654, ⟨by decide +kernel, by decide +kernel, by decide +kernel⟩, by decide⟩
theorem fl_X2_40 : FL9 RX2 40 2 8 TX2 9 := ⟨rfl, by decide, inG_X2, w9_158, ⟨tyX2, tyX2_ok⟩, nmX2⟩
theorem fr_X2_8 : FR9 2 8 46 := fun ca a n m => ⟨_, rfl, rfl⟩
theorem fl_X2_37 : FL9 RX2 37 2 7 TX2 9 := ⟨rfl, by decide, inG_X2, w9_157, ⟨tyX2, tyX2_ok⟩, nmX2⟩
theorem fr_X2_7 : FR9 2 7 45 := fun ca a n m => ⟨_, rfl, rfl⟩
theorem lv_X2_75 : LV9 RX2 75 2 yX2_forgetAll cX2_forgetAll 1 none 0 := ⟨by decide, ⟨_, _, rfl⟩, w9_316, w9_318, w9_4, w9_30, w9_319, ⟨by decide +kernel, by decide +kernel, by decide +kernel⟩, by decide⟩
theorem lv_L_92 : LV9 RL 92 2 yX2_restore cX2_restore 2 (some .int) 1 := ⟨by decide, ⟨_, _, rfl⟩, w9_659, w9_660, w9_661, w9_30, w9_662, ⟨by decide +kernel, by decide +kernel, by decide +kernel⟩, by decide⟩
theorem lv_X1_73 : LV9 RX1 73 1 yX1_lastCell cX1_lastCell 2 (some .int) 1 := ⟨by decide, ⟨_, _, rfl⟩, w9_353, w9_355, w9_9, w9_32, w9_356, ⟨by decide +kernel, by decide +kernel, by decide +kernel⟩, by decide⟩
theorem lv_X0_43 : LV9 RX0 43 0 yX0_hasLane cX0_hasLane 2 (some .boolean) 1 := ⟨by decide, ⟨_, _, rfl⟩, w9_345, w9_346, w9_347, w9_31, w9_348, ⟨by decide +kernel, by decide +kernel, by decide +kernel⟩, by decide⟩
theorem lv_X0_47 : LV9 RX0 47 1 yX1_addVehicle cX1_addVehicle 5 (some .boolean) 3 := ⟨by decide, ⟨_, _, rfl⟩, w9_349, w9_350, w9_351, w9_32, w9_352, ⟨by decide +kernel, by decide +kernel, by decide +kernel⟩, by decide⟩
theorem lv_X1_127 : LV9 RX1 127 1 yX1_hasVehicle cX1_hasVehicle 2 (some .boolean) 1 := ⟨by decide, ⟨_, _, rfl⟩, w9_511, w9_502, w9_503, w9_32, w9_504, ⟨by decide +kernel, by decide +kernel, by decide +kernel⟩, by decide⟩
theorem lv_X1_111 : LV9 RX1 111 1 yX1_vehicleInCheck cX1_vehicleInCheck 2 (some .int) 0 := ⟨by decide, ⟨_, _, rfl⟩, w9_404, w9_406, w9_16, w9_32, w9_407, ⟨by decide +kernel, by decide +kernel, by decide +kernel⟩, by decide⟩
theorem lv_X1_124 : LV9 RX1 124 1 yX1_isUnderArm cX1_isUnderArm 2 (some .boolean) 0 := ⟨by decide, ⟨_, _, rfl⟩, w9_372, w9_374, w9_10, w9_32, w9_375, ⟨by decide +kernel, by decide +kernel, by decide +kernel⟩, by decide⟩
theorem lv_X1_108 : LV9 RX1 108 1 yX1_removeFirst cX1_removeFirst 2 none 0 := ⟨by decide, ⟨_, _, rfl⟩, w9_392, w9_394, w9_13, w9_32, w9_395, ⟨by decide +kernel, by decide +kernel, by decide +kernel⟩, by decide⟩
theorem lv_X1_104 : LV9 RX1 104 1 yX1_canMove cX1_canMove 3 (some .boolean) 1 := ⟨by decide, ⟨_, _, rfl⟩, w9_388, w9_390, w9_12, w9_32, w9_391, ⟨by decide +kernel, by decide +kernel, by decide +kernel⟩, by decide⟩
theorem lv_X1_117 : LV9 RX1 117 1 yX1_letVehicleWaits cX1_letVehicleWaits 2 (some .boolean) 0 := ⟨by decide, ⟨_, _, rfl⟩, w9_412, w9_414, w9_17, w9_32, w9_415, ⟨by decide +kernel, by decide +kernel, by decide +kernel⟩, by decide⟩
theorem lv_X1_121 : LV9 RX1 121 1 yX1_isLoopCovered cX1_isLoopCovered 2 (some .boolean) 0 := ⟨by decide, ⟨_, _, rfl⟩, w9_416, w9_418, w9_18, w9_32, w9_419, ⟨by decide +kernel, by decide +kernel, by decide +kernel⟩, by decide⟩
theorem lv_X1_83 : LV9 RX1 83 1 yX1_moveVehicles cX1_moveVehicles 2 none 0 := ⟨by decide, ⟨_, _, rfl⟩, w9_384, w9_386, w9_11, w9_32, w9_387, ⟨by decide +kernel, by decide +kernel, by decide +kernel⟩, by decide⟩
theorem lv_X1_86 : LV9 RX1 86 1 yX1_checkTicket cX1_checkTicket 5 none 3 := ⟨by decide, ⟨_, _, rfl⟩, w9_400, w9_402, w9_15, w9_32, w9_403, ⟨by decide +kernel, by decide +kernel, by decide +kernel⟩, by decide⟩
theorem lv_X1_90 : LV9 RX1 90 1 yX1_reason cX1_reason 1 (some .int) 0 := ⟨by decide, ⟨_, _, rfl⟩, w9_408, w9_409, w9_410, w9_32, w9_411, ⟨by decide +kernel, by decide +kernel, by decide +kernel⟩, by decide⟩
theorem lv_X1_98 : LV9 RX1 98 1 yX1_hitIfUnderArm cX1_hitIfUnderArm 1 none 0 := ⟨by decide, ⟨_, _, rfl⟩, w9_427, w9_429, w9_20, w9_32, w9_430, ⟨by decide +kernel, by decide +kernel, by decide +kernel⟩, by decide⟩
theorem lv_X1_101 : LV9 RX1 101 1 yX1_countThrough cX1_countThrough 2 none 0 := ⟨by decide, ⟨_, _, rfl⟩, w9_431, w9_433, w9_21, w9_32, w9_434, ⟨by decide +kernel, by decide +kernel, by decide +kernel⟩, by decide⟩
theorem lv_X1_94 : LV9 RX1 94 1 yX1_moveArm cX1_moveArm 2 none 1 := ⟨by decide, ⟨_, _, rfl⟩, w9_420, w9_422, w9_19, w9_32, w9_423, ⟨by decide +kernel, by decide +kernel, by decide +kernel⟩, by decide⟩
theorem fl_X2_24 : FL9 RX2 24 2 3 TX2 9 := ⟨rfl, by decide, inG_X2, w9_153, ⟨tyX2, tyX2_ok⟩, nmX2⟩
theorem fr_X2_3 : FR9 2 3 23 := fun ca a n m => ⟨_, rfl, rfl⟩
theorem fl_X2_144 : FL9 RX2 144 0 0 TX0 4 := ⟨rfl, by decide, inG_X0, w9_133, ⟨tyX0, tyX0_ok⟩, nmX0⟩
theorem fl_X2_239 : FL9 RX2 239 1 12 TX1 17 := ⟨rfl, by decide, inG_X1, w9_84, ⟨tyX1, tyX1_ok⟩, nmX1⟩
theorem lv_X2_242 : LV9 RX2 242 1 yX1_hasGoneThrough cX1_hasGoneThrough 2 (some .boolean) 1 := ⟨by decide, ⟨_, _, rfl⟩, w9_611, w9_612, w9_613, w9_32, w9_614, ⟨by decide +kernel, by decide +kernel, by decide +kernel⟩, by decide⟩
theorem fl_X2_168 : FL9 RX2 168 0 1 TX0 4 := ⟨rfl, by decide, inG_X0, w9_135, ⟨tyX0, tyX0_ok⟩, nmX0⟩
theorem lv_X2_224 : LV9 RX2 224 1 yX1_tick cX1_tick 2 none 1 := ⟨by decide, ⟨_, _, rfl⟩, w9_599, w9_381, w9_382, w9_32, w9_383, ⟨by decide +kernel, by decide +kernel, by decide +kernel⟩, by decide⟩
theorem ls_X2_192 : LO9 RX2 192 yX2_checkLength cX2_checkLength 1 none 1 := ⟨w9_622, w9_623, w9_30, w9_624, ⟨by decide +kernel, by decide +kernel, by decide +kernel⟩, by decide⟩
theorem lv_X2_123 : LV9 RX2 123 0 yX0_addVehicle cX0_addVehicle 5 (some .boolean) 4 := ⟨by decide, ⟨_, _, rfl⟩, w9_341, w9_342, w9_343, w9_31, w9_344, ⟨by decide +kernel, by decide +kernel, by decide +kernel⟩, by decide⟩
theorem fl_X2_195 : FL9 RX2 195 1 5 TX1 17 := ⟨rfl, by decide, inG_X1, w9_72, ⟨tyX1, tyX1_ok⟩, nmX1⟩
theorem lv_X2_228 : LV9 RX2 228 2 yX2_copyThroughIn cX2_copyThroughIn 6 (some .int) 2 := ⟨by decide, ⟨_, _, rfl⟩, w9_607, w9_609, w9_26, w9_30, w9_610, ⟨by decide +kernel, by decide +kernel, by decide +kernel⟩, by decide⟩
theorem lv_L_80 : LV9 RL 80 2 yX2_bestLane cX2_bestLane 6 (some .int) 1 := ⟨by decide, ⟨_, _, rfl⟩, w9_618, w9_619, w9_620, w9_30, w9_621, ⟨by decide +kernel, by decide +kernel, by decide +kernel⟩, by decide⟩
theorem fl_X0_74 : FL9 RX0 74 1 6 TX1 17 := ⟨rfl, by decide, inG_X1, w9_74, ⟨tyX1, tyX1_ok⟩, nmX1⟩
theorem lv_X0_62 : LV9 RX0 62 1 yX1_tick cX1_tick 2 none 1 := ⟨by decide, ⟨_, _, rfl⟩, w9_380, w9_381, w9_382, w9_32, w9_383, ⟨by decide +kernel, by decide +kernel, by decide +kernel⟩, by decide⟩
theorem lv_X2_120 : LV9 RX2 120 0 yX0_letTicksGo cX0_letTicksGo 4 (some .boolean) 1 := ⟨by decide, ⟨_, _, rfl⟩, w9_376, w9_377, w9_378, w9_31, w9_379, ⟨by decide +kernel, by decide +kernel, by decide +kernel⟩, by decide⟩
theorem lv_X2_233 : LV9 RX2 233 0 yX0_armsUp cX0_armsUp 3 (some .int) 0 := ⟨by decide, ⟨_, _, rfl⟩, w9_634, w9_635, w9_636, w9_31, w9_637, ⟨by decide +kernel, by decide +kernel, by decide +kernel⟩, by decide⟩
theorem lv_L_83 : LV9 RL 83 2 yX2_coming cX2_coming 5 (some .int) 2 := ⟨by decide, ⟨_, _, rfl⟩, w9_629, w9_630, w9_631, w9_30, w9_632, ⟨by decide +kernel, by decide +kernel, by decide +kernel⟩, by decide⟩
theorem lv_X2_172 : LV9 RX2 172 0 yX0_hasLane cX0_hasLane 2 (some .boolean) 1 := ⟨by decide, ⟨_, _, rfl⟩, w9_463, w9_346, w9_347, w9_31, w9_348, ⟨by decide +kernel, by decide +kernel, by decide +kernel⟩, by decide⟩
theorem lv_X2_138 : LV9 RX2 138 2 yX2_checkLane cX2_checkLane 2 none 1 := ⟨by decide, ⟨_, _, rfl⟩, w9_459, w9_461, w9_22, w9_30, w9_462, ⟨by decide +kernel, by decide +kernel, by decide +kernel⟩, by decide⟩
theorem lv_L_74 : LV9 RL 74 2 yX2_emptyIn cX2_emptyIn 4 (some .int) 1 := ⟨by decide, ⟨_, _, rfl⟩, w9_595, w9_596, w9_597, w9_30, w9_598, ⟨by decide +kernel, by decide +kernel, by decide +kernel⟩, by decide⟩
theorem fl_X0_51 : FL9 RX0 51 1 10 TX1 17 := ⟨rfl, by decide, inG_X1, w9_80, ⟨tyX1, tyX1_ok⟩, nmX1⟩
theorem lv_X2_110 : LV9 RX2 110 0 yX0_changeLoop cX0_changeLoop 3 (some .boolean) 2 := ⟨by decide, ⟨_, _, rfl⟩, w9_360, w9_361, w9_362, w9_31, w9_363, ⟨by decide +kernel, by decide +kernel, by decide +kernel⟩, by decide⟩
theorem fl_X2_236 : FL9 RX2 236 1 15 TX1 17 := ⟨rfl, by decide, inG_X1, w9_88, ⟨tyX1, tyX1_ok⟩, nmX1⟩
theorem lv_L_86 : LV9 RL 86 2 yX2_hitsIn cX2_hitsIn 5 (some .int) 1 := ⟨by decide, ⟨_, _, rfl⟩, w9_641, w9_642, w9_643, w9_30, w9_644, ⟨by decide +kernel, by decide +kernel, by decide +kernel⟩, by decide⟩
theorem lv_L_89 : LV9 RL 89 2 yX2_save cX2_save 2 (some .int) 1 := ⟨by decide, ⟨_, _, rfl⟩, w9_648, w9_649, w9_650, w9_30, w9_651, ⟨by decide +kernel, by decide +kernel, by decide +kernel⟩, by decide⟩
theorem lv_X1_130 : LV9 RX1 130 1 yX1_countUnlet cX1_countUnlet 3 (some .int) 0 := ⟨by decide, ⟨_, _, rfl⟩, w9_485, w9_487, w9_23, w9_32, w9_488, ⟨by decide +kernel, by decide +kernel, by decide +kernel⟩, by decide⟩
theorem lv_X2_148 : LV9 RX2 148 1 yX1_number cX1_number 2 (some .int) 1 := ⟨by decide, ⟨_, _, rfl⟩, w9_481, w9_482, w9_483, w9_32, w9_484, ⟨by decide +kernel, by decide +kernel, by decide +kernel⟩, by decide⟩
theorem lv_L_45 : LV9 RL 45 2 yX2_laneOf cX2_laneOf 3 (some .int) 2 := ⟨by decide, ⟨_, _, rfl⟩, w9_455, w9_456, w9_457, w9_30, w9_458, ⟨by decide +kernel, by decide +kernel, by decide +kernel⟩, by decide⟩
theorem ls_X2_92 : LO9 RX2 92 yX2_isBetween cX2_isBetween 3 (some .boolean) 3 := ⟨w9_301, w9_302, w9_30, w9_303, ⟨by decide +kernel, by decide +kernel, by decide +kernel⟩, by decide⟩
theorem ln_X0_66 : LN9 RX0 66 yX2_isSetting cX2_isSetting 2 (some .boolean) 2 "LorryArms" := ⟨by decide +kernel, w9_576, w9_30, w9_577, ⟨by decide +kernel, by decide +kernel, by decide +kernel⟩, by decide⟩
theorem ls_X2_210 : LO9 RX2 210 yX2_isSetting cX2_isSetting 2 (some .boolean) 2 := ⟨w9_575, w9_576, w9_30, w9_577, ⟨by decide +kernel, by decide +kernel, by decide +kernel⟩, by decide⟩
theorem lv_X2_215 : LV9 RX2 215 0 yX0_changeSetting cX0_changeSetting 3 (some .boolean) 2 := ⟨by decide, ⟨_, _, rfl⟩, w9_579, w9_580, w9_581, w9_31, w9_582, ⟨by decide +kernel, by decide +kernel, by decide +kernel⟩, by decide⟩
theorem lv_L_68 : LV9 RL 68 2 yX2_set cX2_set 4 (some .int) 2 := ⟨by decide, ⟨_, _, rfl⟩, w9_571, w9_572, w9_573, w9_30, w9_574, ⟨by decide +kernel, by decide +kernel, by decide +kernel⟩, by decide⟩
theorem lv_X2_56 : LV9 RX2 56 2 yX2_signAt cX2_signAt 2 (some .int) 1 := ⟨by decide, ⟨_, _, rfl⟩, w9_287, w9_289, w9_1, w9_30, w9_290, ⟨by decide +kernel, by decide +kernel, by decide +kernel⟩, by decide⟩
theorem ls_X2_85 : LO9 RX2 85 yX2_fixedLength cX2_fixedLength 1 (some .int) 1 := ⟨w9_295, w9_296, w9_30, w9_297, ⟨by decide +kernel, by decide +kernel, by decide +kernel⟩, by decide⟩
theorem lv_X0_55 : LV9 RX0 55 1 yX1_canBeMended cX1_canBeMended 1 (some .boolean) 0 := ⟨by decide, ⟨_, _, rfl⟩, w9_368, w9_369, w9_370, w9_32, w9_371, ⟨by decide +kernel, by decide +kernel, by decide +kernel⟩, by decide⟩
theorem fl_X0_59 : FL9 RX0 59 1 11 TX1 17 := ⟨rfl, by decide, inG_X1, w9_82, ⟨tyX1, tyX1_ok⟩, nmX1⟩
theorem lv_X2_82 : LV9 RX2 82 2 yX2_digitAt cX2_digitAt 2 (some .int) 1 := ⟨by decide, ⟨_, _, rfl⟩, w9_333, w9_335, w9_7, w9_30, w9_336, ⟨by decide +kernel, by decide +kernel, by decide +kernel⟩, by decide⟩
theorem lv_X2_117 : LV9 RX2 117 2 yX2_twoDigitsAt cX2_twoDigitsAt 2 (some .int) 1 := ⟨by decide, ⟨_, _, rfl⟩, w9_337, w9_339, w9_8, w9_30, w9_340, ⟨by decide +kernel, by decide +kernel, by decide +kernel⟩, by decide⟩
theorem lv_X2_114 : LV9 RX2 114 0 yX0_mendArm cX0_mendArm 2 (some .boolean) 1 := ⟨by decide, ⟨_, _, rfl⟩, w9_364, w9_365, w9_366, w9_31, w9_367, ⟨by decide +kernel, by decide +kernel, by decide +kernel⟩, by decide⟩
theorem lv_X2_107 : LV9 RX2 107 2 yX2_doArrival cX2_doArrival 4 (some .boolean) 1 := ⟨by decide, ⟨_, _, rfl⟩, w9_329, w9_331, w9_6, w9_30, w9_332, ⟨by decide +kernel, by decide +kernel, by decide +kernel⟩, by decide⟩
theorem ls_X2_100 : LO9 RX2 100 yX2_isLastDigitOfLength cX2_isLastDigitOfLength 2 (some .boolean) 2 := ⟨w9_307, w9_308, w9_30, w9_309, ⟨by decide +kernel, by decide +kernel, by decide +kernel⟩, by decide⟩
theorem ls_X2_96 : LO9 RX2 96 yX2_isLastDigitOfTicks cX2_isLastDigitOfTicks 2 (some .boolean) 2 := ⟨w9_304, w9_305, w9_30, w9_306, ⟨by decide +kernel, by decide +kernel, by decide +kernel⟩, by decide⟩
theorem ls_X2_88 : LO9 RX2 88 yX2_isAllowed cX2_isAllowed 4 (some .boolean) 4 := ⟨w9_298, w9_299, w9_30, w9_300, ⟨by decide +kernel, by decide +kernel, by decide +kernel⟩, by decide⟩
theorem lv_X2_60 : LV9 RX2 60 2 yX2_wrongSignOf cX2_wrongSignOf 5 (some .int) 1 := ⟨by decide, ⟨_, _, rfl⟩, w9_291, w9_293, w9_2, w9_30, w9_294, ⟨by decide +kernel, by decide +kernel, by decide +kernel⟩, by decide⟩
theorem lv_X2_63 : LV9 RX2 63 2 yX2_commandLength cX2_commandLength 3 (some .int) 1 := ⟨by decide, ⟨_, _, rfl⟩, w9_310, w9_312, w9_3, w9_30, w9_313, ⟨by decide +kernel, by decide +kernel, by decide +kernel⟩, by decide⟩
theorem lv_X2_66 : LV9 RX2 66 2 yX2_errorPosition cX2_errorPosition 4 (some .int) 0 := ⟨by decide, ⟨_, _, rfl⟩, w9_283, w9_284, w9_285, w9_30, w9_286, ⟨by decide +kernel, by decide +kernel, by decide +kernel⟩, by decide⟩
theorem lv_X2_72 : LV9 RX2 72 0 yX0_clear cX0_clear 1 none 0 := ⟨by decide, ⟨_, _, rfl⟩, w9_315, w9_129, w9_130, w9_31, w9_131, ⟨by decide +kernel, by decide +kernel, by decide +kernel⟩, by decide⟩
theorem lv_X2_78 : LV9 RX2 78 2 yX2_doCommand cX2_doCommand 2 (some .boolean) 1 := ⟨by decide, ⟨_, _, rfl⟩, w9_320, w9_322, w9_5, w9_30, w9_323, ⟨by decide +kernel, by decide +kernel, by decide +kernel⟩, by decide⟩
theorem lv_L_38 : LV9 RL 38 2 yX2_load cX2_load 4 (some .int) 0 := ⟨by decide, ⟨_, _, rfl⟩, w9_279, w9_280, w9_281, w9_30, w9_282, ⟨by decide +kernel, by decide +kernel, by decide +kernel⟩, by decide⟩
theorem lv_X2_200 : LV9 RX2 200 1 yX1_canBeMended cX1_canBeMended 1 (some .boolean) 0 := ⟨by decide, ⟨_, _, rfl⟩, w9_558, w9_369, w9_370, w9_32, w9_371, ⟨by decide +kernel, by decide +kernel, by decide +kernel⟩, by decide⟩
theorem fl_X2_205 : FL9 RX2 205 1 6 TX1 17 := ⟨rfl, by decide, inG_X1, w9_75, ⟨tyX1, tyX1_ok⟩, nmX1⟩
theorem lv_L_62 : LV9 RL 62 2 yX2_mend cX2_mend 2 (some .int) 1 := ⟨by decide, ⟨_, _, rfl⟩, w9_554, w9_555, w9_556, w9_30, w9_557, ⟨by decide +kernel, by decide +kernel, by decide +kernel⟩, by decide⟩
theorem lv_L_65 : LV9 RL 65 2 yX2_run cX2_run 3 (some .int) 1 := ⟨by decide, ⟨_, _, rfl⟩, w9_563, w9_564, w9_565, w9_30, w9_566, ⟨by decide +kernel, by decide +kernel, by decide +kernel⟩, by decide⟩
theorem lv_L_56 : LV9 RL 56 2 yX2_setting cX2_setting 2 (some .int) 1 := ⟨by decide, ⟨_, _, rfl⟩, w9_523, w9_524, w9_525, w9_30, w9_526, ⟨by decide +kernel, by decide +kernel, by decide +kernel⟩, by decide⟩
theorem lv_X2_180 : LV9 RX2 180 1 yX1_hasVehicle cX1_hasVehicle 2 (some .boolean) 1 := ⟨by decide, ⟨_, _, rfl⟩, w9_501, w9_502, w9_503, w9_32, w9_504, ⟨by decide +kernel, by decide +kernel, by decide +kernel⟩, by decide⟩
theorem lv_X2_153 : LV9 RX2 153 2 yX2_checkVehicle cX2_checkVehicle 3 none 2 := ⟨by decide, ⟨_, _, rfl⟩, w9_497, w9_499, w9_24, w9_30, w9_500, ⟨by decide +kernel, by decide +kernel, by decide +kernel⟩, by decide⟩
theorem lv_L_77 : LV9 RL 77 2 yX2_throughIn cX2_throughIn 3 (some .int) 2 := ⟨by decide, ⟨_, _, rfl⟩, w9_603, w9_604, w9_605, w9_30, w9_606, ⟨by decide +kernel, by decide +kernel, by decide +kernel⟩, by decide⟩
theorem lv_L_71 : LV9 RL 71 2 yX2_undo cX2_undo 1 (some .int) 0 := ⟨by decide, ⟨_, _, rfl⟩, w9_587, w9_588, w9_589, w9_30, w9_590, ⟨by decide +kernel, by decide +kernel, by decide +kernel⟩, by decide⟩
theorem lv_X2_159 : LV9 RX2 159 1 yX1_numberOfVehicle cX1_numberOfVehicle 3 (some .int) 2 := ⟨by decide, ⟨_, _, rfl⟩, w9_507, w9_508, w9_509, w9_32, w9_510, ⟨by decide +kernel, by decide +kernel, by decide +kernel⟩, by decide⟩
theorem lv_L_49 : LV9 RL 49 2 yX2_vehicle cX2_vehicle 4 (some .int) 3 := ⟨by decide, ⟨_, _, rfl⟩, w9_493, w9_494, w9_495, w9_30, w9_496, ⟨by decide +kernel, by decide +kernel, by decide +kernel⟩, by decide⟩
theorem lv_X2_163 : LV9 RX2 163 1 yX1_reason cX1_reason 1 (some .int) 0 := ⟨by decide, ⟨_, _, rfl⟩, w9_519, w9_409, w9_410, w9_32, w9_411, ⟨by decide +kernel, by decide +kernel, by decide +kernel⟩, by decide⟩
theorem lv_L_53 : LV9 RL 53 2 yX2_why cX2_why 2 (some .int) 1 := ⟨by decide, ⟨_, _, rfl⟩, w9_515, w9_516, w9_517, w9_30, w9_518, ⟨by decide +kernel, by decide +kernel, by decide +kernel⟩, by decide⟩
theorem lw_L_95 : LW9 RL 95 yL_tryAppend cL_tryAppend 3 (some .int) [(0, 5, 6, 16), (0, 5, 10, 19)] 2 := ⟨w9_181, w9_182, w9_29, w9_183, ⟨by decide +kernel, by decide +kernel, by decide +kernel⟩, by decide⟩
theorem lw_L_101 : LW9 RL 101 yL_tryLoad cL_tryLoad 2 (some .int) [(0, 4, 5, 19)] 1 := ⟨w9_276, w9_277, w9_29, w9_278, ⟨by decide +kernel, by decide +kernel, by decide +kernel⟩, by decide⟩
theorem lw_L_105 : LW9 RL 105 yL_tryAbout cL_tryAbout 3 (some .int) [(0, 5, 6, 16)] 2 := ⟨w9_435, w9_436, w9_29, w9_437, ⟨by decide +kernel, by decide +kernel, by decide +kernel⟩, by decide⟩
theorem lw_L_108 : LW9 RL 108 yL_tryLane cL_tryLane 4 (some .int) [(0, 6, 7, 13), (0, 6, 11, 16)] 3 := ⟨w9_451, w9_452, w9_29, w9_453, ⟨by decide +kernel, by decide +kernel, by decide +kernel⟩, by decide⟩
theorem lw_L_112 : LW9 RL 112 yL_tryVehicle cL_tryVehicle 5 (some .int) [(0, 7, 8, 13), (0, 7, 13, 16)] 4 := ⟨w9_490, w9_491, w9_29, w9_492, ⟨by decide +kernel, by decide +kernel, by decide +kernel⟩, by decide⟩
theorem lw_L_116 : LW9 RL 116 yL_tryWhy cL_tryWhy 3 (some .int) [(0, 5, 6, 13)] 2 := ⟨w9_512, w9_513, w9_29, w9_514, ⟨by decide +kernel, by decide +kernel, by decide +kernel⟩, by decide⟩
theorem lw_L_119 : LW9 RL 119 yL_trySetting cL_trySetting 3 (some .int) [(0, 5, 6, 16)] 2 := ⟨w9_520, w9_521, w9_29, w9_522, ⟨by decide +kernel, by decide +kernel, by decide +kernel⟩, by decide⟩
theorem lw_L_122 : LW9 RL 122 yL_tryAdd cL_tryAdd 2 (some .int) [(0, 4, 5, 19)] 1 := ⟨w9_528, w9_529, w9_29, w9_530, ⟨by decide +kernel, by decide +kernel, by decide +kernel⟩, by decide⟩
theorem lw_L_125 : LW9 RL 125 yL_tryMend cL_tryMend 3 (some .int) [(0, 5, 6, 13), (0, 5, 10, 19)] 2 := ⟨w9_551, w9_552, w9_29, w9_553, ⟨by decide +kernel, by decide +kernel, by decide +kernel⟩, by decide⟩
theorem lw_L_128 : LW9 RL 128 yL_tryRun cL_tryRun 3 (some .int) [(0, 5, 6, 16)] 2 := ⟨w9_560, w9_561, w9_29, w9_562, ⟨by decide +kernel, by decide +kernel, by decide +kernel⟩, by decide⟩
theorem lw_L_131 : LW9 RL 131 yL_tryLay cL_tryLay 4 (some .int) [(0, 6, 7, 16)] 3 := ⟨w9_568, w9_569, w9_29, w9_570, ⟨by decide +kernel, by decide +kernel, by decide +kernel⟩, by decide⟩
theorem lw_L_134 : LW9 RL 134 yL_tryUndo cL_tryUndo 2 (some .int) [(0, 4, 5, 19)] 1 := ⟨w9_584, w9_585, w9_29, w9_586, ⟨by decide +kernel, by decide +kernel, by decide +kernel⟩, by decide⟩
theorem lw_L_137 : LW9 RL 137 yL_tryEmpty cL_tryEmpty 3 (some .int) [(0, 5, 6, 13)] 2 := ⟨w9_592, w9_593, w9_29, w9_594, ⟨by decide +kernel, by decide +kernel, by decide +kernel⟩, by decide⟩
theorem lw_L_140 : LW9 RL 140 yL_tryThrough cL_tryThrough 4 (some .int) [(0, 6, 7, 13)] 3 := ⟨w9_600, w9_601, w9_29, w9_602, ⟨by decide +kernel, by decide +kernel, by decide +kernel⟩, by decide⟩
theorem lw_L_143 : LW9 RL 143 yL_tryBest cL_tryBest 3 (some .int) [(0, 5, 6, 16)] 2 := ⟨w9_615, w9_616, w9_29, w9_617, ⟨by decide +kernel, by decide +kernel, by decide +kernel⟩, by decide⟩
theorem lw_L_146 : LW9 RL 146 yL_tryComing cL_tryComing 4 (some .int) [(0, 6, 7, 16)] 3 := ⟨w9_626, w9_627, w9_29, w9_628, ⟨by decide +kernel, by decide +kernel, by decide +kernel⟩, by decide⟩
theorem lw_L_149 : LW9 RL 149 yL_tryHits cL_tryHits 3 (some .int) [(0, 5, 6, 13)] 2 := ⟨w9_638, w9_639, w9_29, w9_640, ⟨by decide +kernel, by decide +kernel, by decide +kernel⟩, by decide⟩
theorem lw_L_152 : LW9 RL 152 yL_tryKeep cL_tryKeep 3 (some .int) [(0, 5, 6, 13)] 2 := ⟨w9_645, w9_646, w9_29, w9_647, ⟨by decide +kernel, by decide +kernel, by decide +kernel⟩, by decide⟩
theorem lw_L_155 : LW9 RL 155 yL_tryBack cL_tryBack 3 (some .int) [(0, 5, 6, 13), (0, 5, 10, 19)] 2 := ⟨w9_656, w9_657, w9_29, w9_658, ⟨by decide +kernel, by decide +kernel, by decide +kernel⟩, by decide⟩
theorem lv_L_7 : LV9 RL 7 2 yX2_arrive cX2_arrive 5 (some .int) 4 := ⟨by decide, ⟨_, _, rfl⟩, w9_678, w9_679, w9_680, w9_30, w9_681, ⟨by decide +kernel, by decide +kernel, by decide +kernel⟩, by decide⟩
theorem lv_L_22 : LV9 RL 22 2 yX2_loop cX2_loop 3 (some .int) 2 := ⟨by decide, ⟨_, _, rfl⟩, w9_686, w9_687, w9_688, w9_30, w9_689, ⟨by decide +kernel, by decide +kernel, by decide +kernel⟩, by decide⟩
theorem ls_L_160 : LO9 RL 160 yL_call cL_call 5 (some .int) 5 := ⟨w9_178, w9_179, w9_29, w9_180, ⟨by decide +kernel, by decide +kernel, by decide +kernel⟩, by decide⟩
theorem lw_L_168 : LW9 RL 168 yL_loops cL_loops 4 (some .int) [(0, 6, 7, 13)] 3 := ⟨w9_683, w9_684, w9_29, w9_685, ⟨by decide +kernel, by decide +kernel, by decide +kernel⟩, by decide⟩
theorem lw_L_164 : LW9 RL 164 yL_comes cL_comes 6 (some .int) [(0, 9, 10, 13), (0, 9, 15, 16), (0, 9, 20, 19)] 5 := ⟨w9_675, w9_676, w9_29, w9_677, ⟨by decide +kernel, by decide +kernel, by decide +kernel⟩, by decide⟩
theorem lv_X2_264 : LV9 RX2 264 2 yX2_doTurn cX2_doTurn 3 none 1 := ⟨by decide, ⟨_, _, rfl⟩, w9_718, w9_720, w9_28, w9_30, w9_721, ⟨by decide +kernel, by decide +kernel, by decide +kernel⟩, by decide⟩
theorem lv_L_30 : LV9 RL 30 2 yX2_simulate cX2_simulate 9 (some .int) 2 := ⟨by decide, ⟨_, _, rfl⟩, w9_711, w9_712, w9_713, w9_30, w9_714, ⟨by decide +kernel, by decide +kernel, by decide +kernel⟩, by decide⟩
theorem lw_L_178 : LW9 RL 178 yL_doSimulate cL_doSimulate 5 (some .int) [(0, 6, 7, 16)] 3 := ⟨w9_708, w9_709, w9_29, w9_710, ⟨by decide +kernel, by decide +kernel, by decide +kernel⟩, by decide⟩
theorem ls_L_203 : LO9 RL 203 yL_thrown cL_thrown 1 (some .boolean) 1 := ⟨w9_669, w9_670, w9_29, w9_671, ⟨by decide +kernel, by decide +kernel, by decide +kernel⟩, by decide⟩
theorem ls_X2_247 : LO9 RX2 247 yX2_withoutGroups cX2_withoutGroups 6 (some .long) 2 := ⟨w9_698, w9_699, w9_30, w9_700, ⟨by decide +kernel, by decide +kernel, by decide +kernel⟩, by decide⟩
theorem lv_X2_255 : LV9 RX2 255 2 yX2_doGroup cX2_doGroup 6 (some .boolean) 1 := ⟨by decide, ⟨_, _, rfl⟩, w9_703, w9_705, w9_27, w9_30, w9_706, ⟨by decide +kernel, by decide +kernel, by decide +kernel⟩, by decide⟩
theorem lv_L_26 : LV9 RL 26 2 yX2_runScript cX2_runScript 5 (some .int) 2 := ⟨by decide, ⟨_, _, rfl⟩, w9_693, w9_694, w9_695, w9_30, w9_696, ⟨by decide +kernel, by decide +kernel, by decide +kernel⟩, by decide⟩
theorem ls_L_211 : LO9 RL 211 yL_breaks cL_breaks 4 (some .boolean) 3 := ⟨w9_735, w9_736, w9_29, w9_737, ⟨by decide +kernel, by decide +kernel, by decide +kernel⟩, by decide⟩
theorem lw_L_172 : LW9 RL 172 yL_doScript cL_doScript 5 (some .int) [(0, 6, 7, 16)] 3 := ⟨w9_690, w9_691, w9_29, w9_692, ⟨by decide +kernel, by decide +kernel, by decide +kernel⟩, by decide⟩
theorem ls_L_183 : LO9 RL 183 yL_cell cL_cell 2 (some .int) 2 := ⟨w9_664, w9_665, w9_29, w9_666, ⟨by decide +kernel, by decide +kernel, by decide +kernel⟩, by decide⟩
theorem ls_L_187 : LO9 RL 187 yL_act cL_act 4 (some .int) 2 := ⟨w9_726, w9_727, w9_29, w9_728, ⟨by decide +kernel, by decide +kernel, by decide +kernel⟩, by decide⟩
theorem ls_L_191 : LO9 RL 191 yL_refuses cL_refuses 5 (some .boolean) 2 := ⟨w9_672, w9_673, w9_29, w9_674, ⟨by decide +kernel, by decide +kernel, by decide +kernel⟩, by decide⟩
theorem ls_L_195 : LO9 RL 195 yL_alike cL_alike 7 (some .boolean) 3 := ⟨w9_729, w9_730, w9_29, w9_731, ⟨by decide +kernel, by decide +kernel, by decide +kernel⟩, by decide⟩
theorem ls_L_199 : LO9 RL 199 yL_holds cL_holds 15 (some .boolean) 1 := ⟨w9_723, w9_724, w9_29, w9_725, ⟨by decide +kernel, by decide +kernel, by decide +kernel⟩, by decide⟩
theorem ls_L_207 : LO9 RL 207 yL_lorry cL_lorry 11 (some .boolean) 4 := ⟨w9_732, w9_733, w9_29, w9_734, ⟨by decide +kernel, by decide +kernel, by decide +kernel⟩, by decide⟩
theorem tg_X2_48 : ∀ w ∈ (vx_atS RX2 48 "java/lang/IllegalArgumentException" names9).filter goodWord, w ∈ gw9 := by decide +kernel
theorem tg_X2_55 : ∀ w ∈ (vx_atS RX2 55 "java/lang/IllegalStateException" names9).filter goodWord, w ∈ gw9 := by decide +kernel
theorem tg_X2_179 : ∀ w ∈ (vx_atS RX2 179 "java/lang/IndexOutOfBoundsException" names9).filter goodWord, w ∈ gw9 := by decide +kernel
theorem th_X2_about_10 : TH9 RX2 cX2_about 10 "java/lang/IllegalArgumentException" := ⟨44, 127, 48, "what is 0 to 9", by decide +kernel, by decide +kernel, w9_190, w9_36, tg_X2_48, by decide +kernel, by decide +kernel, by decide +kernel, dX2_about_10, dX2_about_13, Or.inl ⟨dX2_about_14, dX2_about_16, dX2_about_19⟩⟩
theorem th_X2_lane_11 : TH9 RX2 cX2_lane 11 "java/lang/IllegalStateException" := ⟨51, 187, 55, "there are 3 lanes", by decide +kernel, by decide +kernel, w9_258, w9_37, tg_X2_55, by decide +kernel, by decide +kernel, by decide +kernel, dX2_lane_11, dX2_lane_14, Or.inl ⟨dX2_lane_15, dX2_lane_17, dX2_lane_20⟩⟩
theorem th_X2_append_11 : TH9 RX2 cX2_append 11 "java/lang/IllegalArgumentException" := ⟨44, 46, 48, "a character code is 0 to 255", by decide +kernel, by decide +kernel, w9_190, w9_36, tg_X2_48, by decide +kernel, by decide +kernel, by decide +kernel, dX2_append_11, dX2_append_14, Or.inl ⟨dX2_append_15, dX2_append_17, dX2_append_20⟩⟩
theorem th_X2_append_30 : TH9 RX2 cX2_append 30 "java/lang/IllegalStateException" := ⟨51, 53, 55, "the text is full", by decide +kernel, by decide +kernel, w9_258, w9_37, tg_X2_55, by decide +kernel, by decide +kernel, by decide +kernel, dX2_append_30, dX2_append_33, Or.inl ⟨dX2_append_34, dX2_append_36, dX2_append_39⟩⟩
theorem th_X2_checkSlot_9 : TH9 RX2 cX2_checkSlot 9 "java/lang/IndexOutOfBoundsException" := ⟨175, 277, 179, "a save slot is 0 or 1", by decide +kernel, by decide +kernel, w9_464, w9_39, tg_X2_179, by decide +kernel, by decide +kernel, by decide +kernel, dX2_checkSlot_9, dX2_checkSlot_12, Or.inr ⟨dX2_checkSlot_13, dX2_checkSlot_16, dX2_checkSlot_19⟩⟩
theorem th_X2_restore_13 : TH9 RX2 cX2_restore 13 "java/lang/IllegalStateException" := ⟨51, 275, 55, "nothing has been saved in this slot", by decide +kernel, by decide +kernel, w9_258, w9_37, tg_X2_55, by decide +kernel, by decide +kernel, by decide +kernel, dX2_restore_13, dX2_restore_16, Or.inr ⟨dX2_restore_17, dX2_restore_20, dX2_restore_23⟩⟩
theorem th_X2_checkLength_11 : TH9 RX2 cX2_checkLength 11 "java/lang/IllegalArgumentException" := ⟨44, 185, 48, "a length is 2 to 12", by decide +kernel, by decide +kernel, w9_190, w9_36, tg_X2_48, by decide +kernel, by decide +kernel, by decide +kernel, dX2_checkLength_11, dX2_checkLength_14, Or.inl ⟨dX2_checkLength_15, dX2_checkLength_17, dX2_checkLength_20⟩⟩
theorem th_X2_coming_12 : TH9 RX2 cX2_coming 12 "java/lang/IllegalArgumentException" := ⟨44, 231, 48, "n is 1 to 400", by decide +kernel, by decide +kernel, w9_190, w9_36, tg_X2_48, by decide +kernel, by decide +kernel, by decide +kernel, dX2_coming_12, dX2_coming_15, Or.inl ⟨dX2_coming_16, dX2_coming_18, dX2_coming_21⟩⟩
theorem th_X2_coming_31 : TH9 RX2 cX2_coming 31 "java/lang/IllegalArgumentException" := ⟨44, 157, 48, "what is 0 to 4", by decide +kernel, by decide +kernel, w9_190, w9_36, tg_X2_48, by decide +kernel, by decide +kernel, by decide +kernel, dX2_coming_31, dX2_coming_34, Or.inl ⟨dX2_coming_35, dX2_coming_37, dX2_coming_40⟩⟩
theorem th_X2_checkLane_11 : TH9 RX2 cX2_checkLane 11 "java/lang/IndexOutOfBoundsException" := ⟨175, 177, 179, "there is no such lane", by decide +kernel, by decide +kernel, w9_464, w9_39, tg_X2_179, by decide +kernel, by decide +kernel, by decide +kernel, dX2_checkLane_11, dX2_checkLane_14, Or.inl ⟨dX2_checkLane_15, dX2_checkLane_17, dX2_checkLane_20⟩⟩
theorem th_X2_laneOf_15 : TH9 RX2 cX2_laneOf 15 "java/lang/IllegalArgumentException" := ⟨44, 142, 48, "what is 0 to 7", by decide +kernel, by decide +kernel, w9_190, w9_36, tg_X2_48, by decide +kernel, by decide +kernel, by decide +kernel, dX2_laneOf_15, dX2_laneOf_18, Or.inl ⟨dX2_laneOf_19, dX2_laneOf_21, dX2_laneOf_24⟩⟩
theorem th_X2_set_8 : TH9 RX2 cX2_set 8 "java/lang/IllegalArgumentException" := ⟨44, 213, 48, "no setting, or a value out of its range", by decide +kernel, by decide +kernel, w9_190, w9_36, tg_X2_48, by decide +kernel, by decide +kernel, by decide +kernel, dX2_set_8, dX2_set_11, Or.inl ⟨dX2_set_12, dX2_set_14, dX2_set_17⟩⟩
theorem th_X2_load_8 : TH9 RX2 cX2_load 8 "java/lang/IllegalStateException" := ⟨51, 70, 55, "the text is not a gate", by decide +kernel, by decide +kernel, w9_258, w9_37, tg_X2_55, by decide +kernel, by decide +kernel, by decide +kernel, dX2_load_8, dX2_load_11, Or.inl ⟨dX2_load_12, dX2_load_14, dX2_load_17⟩⟩
theorem th_X2_mend_20 : TH9 RX2 cX2_mend 20 "java/lang/IllegalStateException" := ⟨51, 203, 55, "the arm is whole, or a vehicle is under it", by decide +kernel, by decide +kernel, w9_258, w9_37, tg_X2_55, by decide +kernel, by decide +kernel, by decide +kernel, dX2_mend_20, dX2_mend_23, Or.inl ⟨dX2_mend_24, dX2_mend_26, dX2_mend_29⟩⟩
theorem th_X2_run_11 : TH9 RX2 cX2_run 11 "java/lang/IllegalArgumentException" := ⟨44, 208, 48, "a run is 1 to 60 ticks", by decide +kernel, by decide +kernel, w9_190, w9_36, tg_X2_48, by decide +kernel, by decide +kernel, by decide +kernel, dX2_run_11, dX2_run_14, Or.inl ⟨dX2_run_15, dX2_run_17, dX2_run_20⟩⟩
theorem th_X2_setting_9 : TH9 RX2 cX2_setting 9 "java/lang/IllegalArgumentException" := ⟨44, 166, 48, "a setting is 0 to 2", by decide +kernel, by decide +kernel, w9_190, w9_36, tg_X2_48, by decide +kernel, by decide +kernel, by decide +kernel, dX2_setting_9, dX2_setting_12, Or.inl ⟨dX2_setting_13, dX2_setting_15, dX2_setting_18⟩⟩
theorem th_X2_checkVehicle_21 : TH9 RX2 cX2_checkVehicle 21 "java/lang/IndexOutOfBoundsException" := ⟨175, 183, 179, "there is no such vehicle", by decide +kernel, by decide +kernel, w9_464, w9_39, tg_X2_179, by decide +kernel, by decide +kernel, by decide +kernel, dX2_checkVehicle_21, dX2_checkVehicle_24, Or.inl ⟨dX2_checkVehicle_25, dX2_checkVehicle_27, dX2_checkVehicle_30⟩⟩
theorem th_X2_undo_7 : TH9 RX2 cX2_undo 7 "java/lang/IllegalStateException" := ⟨51, 218, 55, "no state is remembered", by decide +kernel, by decide +kernel, w9_258, w9_37, tg_X2_55, by decide +kernel, by decide +kernel, by decide +kernel, dX2_undo_7, dX2_undo_10, Or.inl ⟨dX2_undo_11, dX2_undo_13, dX2_undo_16⟩⟩
theorem th_X2_vehicle_15 : TH9 RX2 cX2_vehicle 15 "java/lang/IllegalArgumentException" := ⟨44, 157, 48, "what is 0 to 4", by decide +kernel, by decide +kernel, w9_190, w9_36, tg_X2_48, by decide +kernel, by decide +kernel, by decide +kernel, dX2_vehicle_15, dX2_vehicle_18, Or.inl ⟨dX2_vehicle_19, dX2_vehicle_21, dX2_vehicle_24⟩⟩
theorem th_X2_arrive_26 : TH9 RX2 cX2_arrive 26 "java/lang/IllegalStateException" := ⟨51, 198, 55, "there are 6 vehicles in the lane", by decide +kernel, by decide +kernel, w9_258, w9_37, tg_X2_55, by decide +kernel, by decide +kernel, by decide +kernel, dX2_arrive_26, dX2_arrive_29, Or.inl ⟨dX2_arrive_30, dX2_arrive_32, dX2_arrive_35⟩⟩
theorem th_X2_simulate_11 : TH9 RX2 cX2_simulate 11 "java/lang/IllegalArgumentException" := ⟨44, 258, 48, "m is 1 to 60", by decide +kernel, by decide +kernel, w9_190, w9_36, tg_X2_48, by decide +kernel, by decide +kernel, by decide +kernel, dX2_simulate_11, dX2_simulate_14, Or.inr ⟨dX2_simulate_15, dX2_simulate_18, dX2_simulate_21⟩⟩
theorem th_X2_runScript_10 : TH9 RX2 cX2_runScript 10 "java/lang/IllegalArgumentException" := ⟨44, 245, 48, "a script has 1 to 3 commands", by decide +kernel, by decide +kernel, w9_190, w9_36, tg_X2_48, by decide +kernel, by decide +kernel, by decide +kernel, dX2_runScript_10, dX2_runScript_13, Or.inl ⟨dX2_runScript_14, dX2_runScript_16, dX2_runScript_19⟩⟩
theorem th_X2_runScript_36 : TH9 RX2 cX2_runScript 36 "java/lang/IllegalArgumentException" := ⟨44, 251, 48, "the script is negative or too long", by decide +kernel, by decide +kernel, w9_190, w9_36, tg_X2_48, by decide +kernel, by decide +kernel, by decide +kernel, dX2_runScript_36, dX2_runScript_39, Or.inl ⟨dX2_runScript_40, dX2_runScript_42, dX2_runScript_45⟩⟩
