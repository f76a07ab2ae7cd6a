theorem ne9 {x c : Int32} {k : Int} (h : ¬ x = c) (hc : c.toInt = k) : x.toInt ≠ k := fun q => h (Int32.toInt_inj.mp (q.trans hc.symm))
theorem inG_X0 : ∀ w ∈ u_ws RX0 TX0 4, w ∈ gw9 := by decide +kernel
theorem inG_X1 : ∀ w ∈ u_ws RX1 TX1 17, w ∈ gw9 := by decide +kernel
theorem inG_X2 : ∀ w ∈ u_ws RX2 TX2 9, w ∈ gw9 := by decide +kernel
theorem inG_X3 : ∀ w ∈ u_ws RX3 TX3 13, w ∈ gw9 := by decide +kernel
theorem w9_0 : Cond.selects "LorryArms" ⟨"LorryArms", "signAt", "(I)I"⟩ ⟨"LorryArms", "signAt", "(I)I"⟩ ∈ gw9 := gw9_in 0 (by decide +kernel) rfl
theorem w9_1 : Cond.selects "LorryArms" ⟨"LorryArms", "wrongSignOf", "(I)I"⟩ ⟨"LorryArms", "wrongSignOf", "(I)I"⟩ ∈ gw9 := gw9_in 1 (by decide +kernel) rfl
theorem w9_2 : Cond.selects "LorryArms" ⟨"LorryArms", "commandLength", "(I)I"⟩ ⟨"LorryArms", "commandLength", "(I)I"⟩ ∈ gw9 := gw9_in 2 (by decide +kernel) rfl
theorem w9_4 : Cond.selects "LorryArms" ⟨"LorryArms", "forgetAll", "()V"⟩ ⟨"LorryArms", "forgetAll", "()V"⟩ ∈ gw9 := gw9_in 4 (by decide +kernel) rfl
theorem w9_5 : Cond.selects "LorryArms" ⟨"LorryArms", "doCommand", "(I)Z"⟩ ⟨"LorryArms", "doCommand", "(I)Z"⟩ ∈ gw9 := gw9_in 5 (by decide +kernel) rfl
theorem w9_6 : Cond.selects "LorryArms" ⟨"LorryArms", "doArrival", "(I)Z"⟩ ⟨"LorryArms", "doArrival", "(I)Z"⟩ ∈ gw9 := gw9_in 6 (by decide +kernel) rfl
theorem w9_7 : Cond.selects "LorryArms" ⟨"LorryArms", "digitAt", "(I)I"⟩ ⟨"LorryArms", "digitAt", "(I)I"⟩ ∈ gw9 := gw9_in 7 (by decide +kernel) rfl
theorem w9_8 : Cond.selects "LorryArms" ⟨"LorryArms", "twoDigitsAt", "(I)I"⟩ ⟨"LorryArms", "twoDigitsAt", "(I)I"⟩ ∈ gw9 := gw9_in 8 (by decide +kernel) rfl
theorem w9_9 : Cond.selects "LorryArms$Lane" ⟨"LorryArms$Lane", "lastCell", "(I)I"⟩ ⟨"LorryArms$Lane", "lastCell", "(I)I"⟩ ∈ gw9 := gw9_in 9 (by decide +kernel) rfl
theorem w9_10 : Cond.selects "LorryArms$Lane" ⟨"LorryArms$Lane", "isUnderArm", "()Z"⟩ ⟨"LorryArms$Lane", "isUnderArm", "()Z"⟩ ∈ gw9 := gw9_in 10 (by decide +kernel) rfl
theorem w9_11 : Cond.selects "LorryArms$Lane" ⟨"LorryArms$Lane", "moveVehicles", "()V"⟩ ⟨"LorryArms$Lane", "moveVehicles", "()V"⟩ ∈ gw9 := gw9_in 11 (by decide +kernel) rfl
theorem w9_12 : Cond.selects "LorryArms$Lane" ⟨"LorryArms$Lane", "canMove", "(I)Z"⟩ ⟨"LorryArms$Lane", "canMove", "(I)Z"⟩ ∈ gw9 := gw9_in 12 (by decide +kernel) rfl
theorem w9_13 : Cond.selects "LorryArms$Lane" ⟨"LorryArms$Lane", "removeFirst", "()V"⟩ ⟨"LorryArms$Lane", "removeFirst", "()V"⟩ ∈ gw9 := gw9_in 13 (by decide +kernel) rfl
theorem w9_14 : Cond.selects "LorryArms$Lane" ⟨"LorryArms$Lane", "copyVehicle", "(LLorryArms$Lane;II)V"⟩ ⟨"LorryArms$Lane", "copyVehicle", "(LLorryArms$Lane;II)V"⟩ ∈ gw9 := gw9_in 14 (by decide +kernel) rfl
theorem w9_15 : Cond.selects "LorryArms$Lane" ⟨"LorryArms$Lane", "checkTicket", "(III)V"⟩ ⟨"LorryArms$Lane", "checkTicket", "(III)V"⟩ ∈ gw9 := gw9_in 15 (by decide +kernel) rfl
theorem w9_16 : Cond.selects "LorryArms$Lane" ⟨"LorryArms$Lane", "vehicleInCheck", "()I"⟩ ⟨"LorryArms$Lane", "vehicleInCheck", "()I"⟩ ∈ gw9 := gw9_in 16 (by decide +kernel) rfl
theorem w9_17 : Cond.selects "LorryArms$Lane" ⟨"LorryArms$Lane", "letVehicleWaits", "()Z"⟩ ⟨"LorryArms$Lane", "letVehicleWaits", "()Z"⟩ ∈ gw9 := gw9_in 17 (by decide +kernel) rfl
theorem w9_18 : Cond.selects "LorryArms$Lane" ⟨"LorryArms$Lane", "isLoopCovered", "()Z"⟩ ⟨"LorryArms$Lane", "isLoopCovered", "()Z"⟩ ∈ gw9 := gw9_in 18 (by decide +kernel) rfl
theorem w9_19 : Cond.selects "LorryArms$Lane" ⟨"LorryArms$Lane", "moveArm", "(Z)V"⟩ ⟨"LorryArms$Lane", "moveArm", "(Z)V"⟩ ∈ gw9 := gw9_in 19 (by decide +kernel) rfl
theorem w9_20 : Cond.selects "LorryArms$Lane" ⟨"LorryArms$Lane", "hitIfUnderArm", "()V"⟩ ⟨"LorryArms$Lane", "hitIfUnderArm", "()V"⟩ ∈ gw9 := gw9_in 20 (by decide +kernel) rfl
theorem w9_21 : Cond.selects "LorryArms$Lane" ⟨"LorryArms$Lane", "countThrough", "()V"⟩ ⟨"LorryArms$Lane", "countThrough", "()V"⟩ ∈ gw9 := gw9_in 21 (by decide +kernel) rfl
theorem w9_22 : Cond.selects "LorryArms" ⟨"LorryArms", "checkLane", "(I)V"⟩ ⟨"LorryArms", "checkLane", "(I)V"⟩ ∈ gw9 := gw9_in 22 (by decide +kernel) rfl
theorem w9_23 : Cond.selects "LorryArms$Lane" ⟨"LorryArms$Lane", "countUnlet", "()I"⟩ ⟨"LorryArms$Lane", "countUnlet", "()I"⟩ ∈ gw9 := gw9_in 23 (by decide +kernel) rfl
theorem w9_24 : Cond.selects "LorryArms" ⟨"LorryArms", "checkVehicle", "(II)V"⟩ ⟨"LorryArms", "checkVehicle", "(II)V"⟩ ∈ gw9 := gw9_in 24 (by decide +kernel) rfl
theorem w9_25 : Cond.selects "LorryArms" ⟨"LorryArms", "remember", "()V"⟩ ⟨"LorryArms", "remember", "()V"⟩ ∈ gw9 := gw9_in 25 (by decide +kernel) rfl
theorem w9_26 : Cond.selects "LorryArms" ⟨"LorryArms", "copyThroughIn", "(II)I"⟩ ⟨"LorryArms", "copyThroughIn", "(II)I"⟩ ∈ gw9 := gw9_in 26 (by decide +kernel) rfl
theorem w9_27 : Cond.selects "LorryArms" ⟨"LorryArms", "doGroup", "(I)Z"⟩ ⟨"LorryArms", "doGroup", "(I)Z"⟩ ∈ gw9 := gw9_in 27 (by decide +kernel) rfl
theorem w9_28 : Cond.selects "LorryArms" ⟨"LorryArms", "doTurn", "(I)V"⟩ ⟨"LorryArms", "doTurn", "(I)V"⟩ ∈ gw9 := gw9_in 28 (by decide +kernel) rfl
theorem w9_29 : Cond.selects "LorryArmsModel" ⟨"LorryArmsModel", "refused", "(I)Z"⟩ ⟨"LorryArmsModel", "refused", "(I)Z"⟩ ∈ gw9 := gw9_in 29 (by decide +kernel) rfl
theorem w9_30 : Cond.selects "LorryArmsModel" ⟨"LorryArmsModel", "readText", "([I)I"⟩ ⟨"LorryArmsModel", "readText", "([I)I"⟩ ∈ gw9 := gw9_in 30 (by decide +kernel) rfl
theorem w9_31 : Cond.selects "LorryArmsModel" ⟨"LorryArmsModel", "at", "(I)I"⟩ ⟨"LorryArmsModel", "at", "(I)I"⟩ ∈ gw9 := gw9_in 31 (by decide +kernel) rfl
theorem w9_32 : Cond.selects "LorryArmsModel" ⟨"LorryArmsModel", "readCommand", "([I)Z"⟩ ⟨"LorryArmsModel", "readCommand", "([I)Z"⟩ ∈ gw9 := gw9_in 32 (by decide +kernel) rfl
theorem w9_33 : Cond.selects "LorryArmsModel" ⟨"LorryArmsModel", "done", "(Z)Z"⟩ ⟨"LorryArmsModel", "done", "(Z)Z"⟩ ∈ gw9 := gw9_in 33 (by decide +kernel) rfl
theorem w9_34 : Cond.selects "LorryArmsModel" ⟨"LorryArmsModel", "figures", "(IIII)I"⟩ ⟨"LorryArmsModel", "figures", "(IIII)I"⟩ ∈ gw9 := gw9_in 34 (by decide +kernel) rfl
theorem w9_35 : Cond.selects "LorryArmsModel" ⟨"LorryArmsModel", "sign", "(I)Z"⟩ ⟨"LorryArmsModel", "sign", "(I)Z"⟩ ∈ gw9 := gw9_in 35 (by decide +kernel) rfl
theorem w9_36 : Cond.selects "LorryArmsModel" ⟨"LorryArmsModel", "runOn", "([II)I"⟩ ⟨"LorryArmsModel", "runOn", "([II)I"⟩ ∈ gw9 := gw9_in 36 (by decide +kernel) rfl
theorem w9_37 : Cond.selects "LorryArmsModel" ⟨"LorryArmsModel", "tickOn", "([I)V"⟩ ⟨"LorryArmsModel", "tickOn", "([I)V"⟩ ∈ gw9 := gw9_in 37 (by decide +kernel) rfl
theorem w9_38 : Cond.selects "LorryArmsModel" ⟨"LorryArmsModel", "moveAll", "([II)V"⟩ ⟨"LorryArmsModel", "moveAll", "([II)V"⟩ ∈ gw9 := gw9_in 38 (by decide +kernel) rfl
theorem w9_39 : Cond.selects "LorryArmsModel" ⟨"LorryArmsModel", "goThrough", "([II)V"⟩ ⟨"LorryArmsModel", "goThrough", "([II)V"⟩ ∈ gw9 := gw9_in 39 (by decide +kernel) rfl
theorem w9_40 : Cond.selects "LorryArmsModel" ⟨"LorryArmsModel", "remember", "()V"⟩ ⟨"LorryArmsModel", "remember", "()V"⟩ ∈ gw9 := gw9_in 40 (by decide +kernel) rfl
theorem w9_41 : Cond.selects "LorryArmsModel" ⟨"LorryArmsModel", "through", "([III)I"⟩ ⟨"LorryArmsModel", "through", "([III)I"⟩ ∈ gw9 := gw9_in 41 (by decide +kernel) rfl
theorem w9_42 : Cond.selects "LorryArmsModel" ⟨"LorryArmsModel", "command", "(II)Z"⟩ ⟨"LorryArmsModel", "command", "(II)Z"⟩ ∈ gw9 := gw9_in 42 (by decide +kernel) rfl
theorem w9_43 : Cond.selects "LorryArmsModel" ⟨"LorryArmsModel", "turn", "(I)V"⟩ ⟨"LorryArmsModel", "turn", "(I)V"⟩ ∈ gw9 := gw9_in 43 (by decide +kernel) rfl
theorem w9_44 : (Jvm.Cond.initialized "LorryArmsLaw") ∈ gw9 := gw9_in 44 (by decide +kernel) rfl
theorem w9_45 : (Jvm.Cond.initialized "LorryArms") ∈ gw9 := gw9_in 45 (by decide +kernel) rfl
theorem w9_46 : (Jvm.Cond.initialized "LorryArms$Gate") ∈ gw9 := gw9_in 46 (by decide +kernel) rfl
theorem w9_47 : (Jvm.Cond.initialized "LorryArms$Lane") ∈ gw9 := gw9_in 47 (by decide +kernel) rfl
theorem w9_48 : (Jvm.Cond.initialized "LorryArmsModel") ∈ gw9 := gw9_in 48 (by decide +kernel) rfl
theorem w9_52 : (Jvm.Cond.initialized "java/lang/IllegalArgumentException") ∈ gw9 := gw9_in 52 (by decide +kernel) rfl
theorem w9_53 : (Jvm.Cond.initialized "java/lang/IllegalStateException") ∈ gw9 := gw9_in 53 (by decide +kernel) rfl
theorem w9_54 : (Jvm.Cond.initialized "java/lang/Math") ∈ gw9 := gw9_in 54 (by decide +kernel) rfl
theorem w9_55 : (Jvm.Cond.initialized "java/lang/IndexOutOfBoundsException") ∈ gw9 := gw9_in 55 (by decide +kernel) rfl
theorem w9_56 : (Jvm.Cond.initialized "java/lang/System") ∈ gw9 := gw9_in 56 (by decide +kernel) rfl
theorem w9_79 : (Jvm.Cond.instanceMethod ({ cls := "LorryArms$Lane", name := "clear", desc := "()V" } : Jvm.MethodName)) ∈ gw9 := gw9_in 79 (by decide +kernel) rfl
theorem w9_80 : (Jvm.Cond.selects "LorryArms$Lane" ({ cls := "LorryArms$Lane", name := "clear", desc := "()V" } : Jvm.MethodName) ({ cls := "LorryArms$Lane", name := "clear", desc := "()V" } : Jvm.MethodName)) ∈ gw9 := gw9_in 80 (by decide +kernel) rfl
theorem w9_81 : (Jvm.Cond.code ({ cls := "LorryArms$Lane", name := "clear", desc := "()V" } : Jvm.MethodName) prog_3_method_2_code (1 : Nat) (Option.none : Option Jvm.ClassFile.FieldType)) ∈ gw9 := gw9_in 81 (by decide +kernel) rfl
theorem w9_82 : (Jvm.Cond.fieldLink "LorryArms$Lane" (9 : Nat) "LorryArms$Lane" "lengths" "[I") ∈ gw9 := gw9_in 82 (by decide +kernel) rfl
theorem w9_83 : (Jvm.Cond.fieldLink "LorryArms$Lane" (15 : Nat) "LorryArms$Lane" "fronts" "[I") ∈ gw9 := gw9_in 83 (by decide +kernel) rfl
theorem w9_84 : (Jvm.Cond.fieldLink "LorryArms$Lane" (18 : Nat) "LorryArms$Lane" "lost" "[Z") ∈ gw9 := gw9_in 84 (by decide +kernel) rfl
theorem w9_85 : (Jvm.Cond.fieldLink "LorryArms$Lane" (22 : Nat) "LorryArms$Lane" "follower" "[Z") ∈ gw9 := gw9_in 85 (by decide +kernel) rfl
theorem w9_86 : (Jvm.Cond.fieldLink "LorryArms$Lane" (25 : Nat) "LorryArms$Lane" "let" "[Z") ∈ gw9 := gw9_in 86 (by decide +kernel) rfl
theorem w9_87 : (Jvm.Cond.fieldLink "LorryArms$Lane" (31 : Nat) "LorryArms$Lane" "vehicles" "I") ∈ gw9 := gw9_in 87 (by decide +kernel) rfl
theorem w9_88 : (Jvm.Cond.fieldLink "LorryArms" (195 : Nat) "LorryArms$Lane" "vehicles" "I") ∈ gw9 := gw9_in 88 (by decide +kernel) rfl
theorem w9_89 : (Jvm.Cond.fieldLink "LorryArms$Lane" (35 : Nat) "LorryArms$Lane" "height" "I") ∈ gw9 := gw9_in 89 (by decide +kernel) rfl
theorem w9_90 : (Jvm.Cond.fieldLink "LorryArms$Gate" (74 : Nat) "LorryArms$Lane" "height" "I") ∈ gw9 := gw9_in 90 (by decide +kernel) rfl
theorem w9_91 : (Jvm.Cond.fieldLink "LorryArms" (205 : Nat) "LorryArms$Lane" "height" "I") ∈ gw9 := gw9_in 91 (by decide +kernel) rfl
theorem w9_92 : (Jvm.Cond.fieldLink "LorryArms$Lane" (38 : Nat) "LorryArms$Lane" "hold" "I") ∈ gw9 := gw9_in 92 (by decide +kernel) rfl
theorem w9_93 : (Jvm.Cond.fieldLink "LorryArms$Lane" (41 : Nat) "LorryArms$Lane" "learned" "I") ∈ gw9 := gw9_in 93 (by decide +kernel) rfl
theorem w9_94 : (Jvm.Cond.fieldLink "LorryArms$Lane" (44 : Nat) "LorryArms$Lane" "checkedFor" "I") ∈ gw9 := gw9_in 94 (by decide +kernel) rfl
theorem w9_95 : (Jvm.Cond.fieldLink "LorryArms$Lane" (47 : Nat) "LorryArms$Lane" "loopBroken" "Z") ∈ gw9 := gw9_in 95 (by decide +kernel) rfl
theorem w9_96 : (Jvm.Cond.fieldLink "LorryArms$Gate" (51 : Nat) "LorryArms$Lane" "loopBroken" "Z") ∈ gw9 := gw9_in 96 (by decide +kernel) rfl
theorem w9_97 : (Jvm.Cond.fieldLink "LorryArms$Lane" (51 : Nat) "LorryArms$Lane" "armBroken" "Z") ∈ gw9 := gw9_in 97 (by decide +kernel) rfl
theorem w9_98 : (Jvm.Cond.fieldLink "LorryArms$Gate" (59 : Nat) "LorryArms$Lane" "armBroken" "Z") ∈ gw9 := gw9_in 98 (by decide +kernel) rfl
theorem w9_99 : (Jvm.Cond.fieldLink "LorryArms$Lane" (54 : Nat) "LorryArms$Lane" "passed" "I") ∈ gw9 := gw9_in 99 (by decide +kernel) rfl
theorem w9_100 : (Jvm.Cond.fieldLink "LorryArms" (239 : Nat) "LorryArms$Lane" "passed" "I") ∈ gw9 := gw9_in 100 (by decide +kernel) rfl
theorem w9_101 : (Jvm.Cond.fieldLink "LorryArms$Lane" (57 : Nat) "LorryArms$Lane" "letThrough" "I") ∈ gw9 := gw9_in 101 (by decide +kernel) rfl
theorem w9_102 : (Jvm.Cond.fieldLink "LorryArms$Lane" (60 : Nat) "LorryArms$Lane" "slipped" "I") ∈ gw9 := gw9_in 102 (by decide +kernel) rfl
theorem w9_103 : (Jvm.Cond.fieldLink "LorryArms$Lane" (63 : Nat) "LorryArms$Lane" "hits" "I") ∈ gw9 := gw9_in 103 (by decide +kernel) rfl
theorem w9_104 : (Jvm.Cond.fieldLink "LorryArms" (236 : Nat) "LorryArms$Lane" "hits" "I") ∈ gw9 := gw9_in 104 (by decide +kernel) rfl
theorem w9_105 : (Jvm.Cond.fieldLink "LorryArms$Lane" (66 : Nat) "LorryArms$Lane" "lostLet" "I") ∈ gw9 := gw9_in 105 (by decide +kernel) rfl
theorem w9_145 : (Jvm.Cond.instanceMethod ({ cls := "LorryArms$Gate", name := "clear", desc := "()V" } : Jvm.MethodName)) ∈ gw9 := gw9_in 145 (by decide +kernel) rfl
theorem w9_146 : (Jvm.Cond.selects "LorryArms$Gate" ({ cls := "LorryArms$Gate", name := "clear", desc := "()V" } : Jvm.MethodName) ({ cls := "LorryArms$Gate", name := "clear", desc := "()V" } : Jvm.MethodName)) ∈ gw9 := gw9_in 146 (by decide +kernel) rfl
theorem w9_147 : (Jvm.Cond.code ({ cls := "LorryArms$Gate", name := "clear", desc := "()V" } : Jvm.MethodName) prog_2_method_2_code (1 : Nat) (Option.none : Option Jvm.ClassFile.FieldType)) ∈ gw9 := gw9_in 147 (by decide +kernel) rfl
theorem w9_148 : (Jvm.Cond.fieldLink "LorryArms$Gate" (11 : Nat) "LorryArms$Gate" "lanes" "[LLorryArms$Lane;") ∈ gw9 := gw9_in 148 (by decide +kernel) rfl
theorem w9_149 : (Jvm.Cond.fieldLink "LorryArms" (144 : Nat) "LorryArms$Gate" "lanes" "[LLorryArms$Lane;") ∈ gw9 := gw9_in 149 (by decide +kernel) rfl
theorem w9_150 : (Jvm.Cond.fieldLink "LorryArms$Gate" (17 : Nat) "LorryArms$Gate" "settings" "[I") ∈ gw9 := gw9_in 150 (by decide +kernel) rfl
theorem w9_151 : (Jvm.Cond.fieldLink "LorryArms" (168 : Nat) "LorryArms$Gate" "settings" "[I") ∈ gw9 := gw9_in 151 (by decide +kernel) rfl
theorem w9_152 : (Jvm.Cond.fieldLink "LorryArms$Gate" (25 : Nat) "LorryArms$Gate" "laneCount" "I") ∈ gw9 := gw9_in 152 (by decide +kernel) rfl
theorem w9_153 : (Jvm.Cond.fieldLink "LorryArms" (129 : Nat) "LorryArms$Gate" "laneCount" "I") ∈ gw9 := gw9_in 153 (by decide +kernel) rfl
theorem w9_154 : (Jvm.Cond.fieldLink "LorryArms$Gate" (29 : Nat) "LorryArms$Gate" "ticks" "I") ∈ gw9 := gw9_in 154 (by decide +kernel) rfl
theorem w9_155 : (Jvm.Cond.fieldLink "LorryArms" (132 : Nat) "LorryArms$Gate" "ticks" "I") ∈ gw9 := gw9_in 155 (by decide +kernel) rfl
theorem w9_166 : (Jvm.Cond.fieldLink "LorryArms" (9 : Nat) "LorryArms" "text" "[C") ∈ gw9 := gw9_in 166 (by decide +kernel) rfl
theorem w9_167 : (Jvm.Cond.fieldLink "LorryArms" (13 : Nat) "LorryArms" "textLength" "I") ∈ gw9 := gw9_in 167 (by decide +kernel) rfl
theorem w9_168 : (Jvm.Cond.fieldLink "LorryArms" (20 : Nat) "LorryArms" "present" "LLorryArms$Gate;") ∈ gw9 := gw9_in 168 (by decide +kernel) rfl
theorem w9_169 : (Jvm.Cond.fieldLink "LorryArms" (24 : Nat) "LorryArms" "copy" "LLorryArms$Gate;") ∈ gw9 := gw9_in 169 (by decide +kernel) rfl
theorem w9_170 : (Jvm.Cond.fieldLink "LorryArms" (27 : Nat) "LorryArms" "remembered" "[LLorryArms$Gate;") ∈ gw9 := gw9_in 170 (by decide +kernel) rfl
theorem w9_171 : (Jvm.Cond.fieldLink "LorryArms" (31 : Nat) "LorryArms" "oldest" "I") ∈ gw9 := gw9_in 171 (by decide +kernel) rfl
theorem w9_172 : (Jvm.Cond.fieldLink "LorryArms" (34 : Nat) "LorryArms" "rememberedCount" "I") ∈ gw9 := gw9_in 172 (by decide +kernel) rfl
theorem w9_173 : (Jvm.Cond.fieldLink "LorryArms" (37 : Nat) "LorryArms" "slots" "[LLorryArms$Gate;") ∈ gw9 := gw9_in 173 (by decide +kernel) rfl
theorem w9_174 : (Jvm.Cond.fieldLink "LorryArms" (40 : Nat) "LorryArms" "saved" "[Z") ∈ gw9 := gw9_in 174 (by decide +kernel) rfl
theorem w9_194 : (Jvm.Cond.methodLink "LorryArmsLaw" (105 : Nat) ({ cls := "LorryArms", name := "clearText", desc := "()I" } : Jvm.MethodName)) ∈ gw9 := gw9_in 194 (by decide +kernel) rfl
theorem w9_195 : (Jvm.Cond.instanceMethod ({ cls := "LorryArms", name := "clearText", desc := "()I" } : Jvm.MethodName)) ∈ gw9 := gw9_in 195 (by decide +kernel) rfl
theorem w9_196 : (Jvm.Cond.selects "LorryArms" ({ cls := "LorryArms", name := "clearText", desc := "()I" } : Jvm.MethodName) ({ cls := "LorryArms", name := "clearText", desc := "()I" } : Jvm.MethodName)) ∈ gw9 := gw9_in 196 (by decide +kernel) rfl
theorem w9_197 : (Jvm.Cond.code ({ cls := "LorryArms", name := "clearText", desc := "()I" } : Jvm.MethodName) prog_1_method_3_code (2 : Nat) (Option.some Jvm.ClassFile.FieldType.int)) ∈ gw9 := gw9_in 197 (by decide +kernel) rfl
theorem w9_198 : (Jvm.Cond.methodLink "LorryArmsLaw" (109 : Nat) ({ cls := "LorryArms", name := "errorPosition", desc := "()I" } : Jvm.MethodName)) ∈ gw9 := gw9_in 198 (by decide +kernel) rfl
theorem w9_199 : (Jvm.Cond.instanceMethod ({ cls := "LorryArms", name := "errorPosition", desc := "()I" } : Jvm.MethodName)) ∈ gw9 := gw9_in 199 (by decide +kernel) rfl
theorem w9_200 : (Jvm.Cond.selects "LorryArms" ({ cls := "LorryArms", name := "errorPosition", desc := "()I" } : Jvm.MethodName) ({ cls := "LorryArms", name := "errorPosition", desc := "()I" } : Jvm.MethodName)) ∈ gw9 := gw9_in 200 (by decide +kernel) rfl
theorem w9_201 : (Jvm.Cond.code ({ cls := "LorryArms", name := "errorPosition", desc := "()I" } : Jvm.MethodName) prog_1_method_4_code (4 : Nat) (Option.some Jvm.ClassFile.FieldType.int)) ∈ gw9 := gw9_in 201 (by decide +kernel) rfl
theorem w9_202 : (Jvm.Cond.methodLink "LorryArms" (56 : Nat) ({ cls := "LorryArms", name := "signAt", desc := "(I)I" } : Jvm.MethodName)) ∈ gw9 := gw9_in 202 (by decide +kernel) rfl
theorem w9_204 : (Jvm.Cond.instanceMethod ({ cls := "LorryArms", name := "signAt", desc := "(I)I" } : Jvm.MethodName)) ∈ gw9 := gw9_in 204 (by decide +kernel) rfl
theorem w9_205 : (Jvm.Cond.code ({ cls := "LorryArms", name := "signAt", desc := "(I)I" } : Jvm.MethodName) prog_1_method_6_code (2 : Nat) (Option.some Jvm.ClassFile.FieldType.int)) ∈ gw9 := gw9_in 205 (by decide +kernel) rfl
theorem w9_206 : (Jvm.Cond.methodLink "LorryArms" (60 : Nat) ({ cls := "LorryArms", name := "wrongSignOf", desc := "(I)I" } : Jvm.MethodName)) ∈ gw9 := gw9_in 206 (by decide +kernel) rfl
theorem w9_208 : (Jvm.Cond.instanceMethod ({ cls := "LorryArms", name := "wrongSignOf", desc := "(I)I" } : Jvm.MethodName)) ∈ gw9 := gw9_in 208 (by decide +kernel) rfl
theorem w9_209 : (Jvm.Cond.code ({ cls := "LorryArms", name := "wrongSignOf", desc := "(I)I" } : Jvm.MethodName) prog_1_method_9_code (5 : Nat) (Option.some Jvm.ClassFile.FieldType.int)) ∈ gw9 := gw9_in 209 (by decide +kernel) rfl
theorem w9_210 : (Jvm.Cond.methodLink "LorryArms" (85 : Nat) ({ cls := "LorryArms", name := "fixedLength", desc := "(I)I" } : Jvm.MethodName)) ∈ gw9 := gw9_in 210 (by decide +kernel) rfl
theorem w9_211 : (Jvm.Cond.static ({ cls := "LorryArms", name := "fixedLength", desc := "(I)I" } : Jvm.MethodName)) ∈ gw9 := gw9_in 211 (by decide +kernel) rfl
theorem w9_212 : (Jvm.Cond.code ({ cls := "LorryArms", name := "fixedLength", desc := "(I)I" } : Jvm.MethodName) prog_1_method_10_code (1 : Nat) (Option.some Jvm.ClassFile.FieldType.int)) ∈ gw9 := gw9_in 212 (by decide +kernel) rfl
theorem w9_213 : (Jvm.Cond.methodLink "LorryArms" (88 : Nat) ({ cls := "LorryArms", name := "isAllowed", desc := "(IIII)Z" } : Jvm.MethodName)) ∈ gw9 := gw9_in 213 (by decide +kernel) rfl
theorem w9_214 : (Jvm.Cond.static ({ cls := "LorryArms", name := "isAllowed", desc := "(IIII)Z" } : Jvm.MethodName)) ∈ gw9 := gw9_in 214 (by decide +kernel) rfl
theorem w9_215 : (Jvm.Cond.code ({ cls := "LorryArms", name := "isAllowed", desc := "(IIII)Z" } : Jvm.MethodName) prog_1_method_11_code (4 : Nat) (Option.some Jvm.ClassFile.FieldType.boolean)) ∈ gw9 := gw9_in 215 (by decide +kernel) rfl
theorem w9_216 : (Jvm.Cond.methodLink "LorryArms" (92 : Nat) ({ cls := "LorryArms", name := "isBetween", desc := "(III)Z" } : Jvm.MethodName)) ∈ gw9 := gw9_in 216 (by decide +kernel) rfl
theorem w9_217 : (Jvm.Cond.static ({ cls := "LorryArms", name := "isBetween", desc := "(III)Z" } : Jvm.MethodName)) ∈ gw9 := gw9_in 217 (by decide +kernel) rfl
theorem w9_218 : (Jvm.Cond.code ({ cls := "LorryArms", name := "isBetween", desc := "(III)Z" } : Jvm.MethodName) prog_1_method_14_code (3 : Nat) (Option.some Jvm.ClassFile.FieldType.boolean)) ∈ gw9 := gw9_in 218 (by decide +kernel) rfl
theorem w9_219 : (Jvm.Cond.methodLink "LorryArms" (96 : Nat) ({ cls := "LorryArms", name := "isLastDigitOfTicks", desc := "(II)Z" } : Jvm.MethodName)) ∈ gw9 := gw9_in 219 (by decide +kernel) rfl
theorem w9_220 : (Jvm.Cond.static ({ cls := "LorryArms", name := "isLastDigitOfTicks", desc := "(II)Z" } : Jvm.MethodName)) ∈ gw9 := gw9_in 220 (by decide +kernel) rfl
theorem w9_221 : (Jvm.Cond.code ({ cls := "LorryArms", name := "isLastDigitOfTicks", desc := "(II)Z" } : Jvm.MethodName) prog_1_method_12_code (2 : Nat) (Option.some Jvm.ClassFile.FieldType.boolean)) ∈ gw9 := gw9_in 221 (by decide +kernel) rfl
theorem w9_222 : (Jvm.Cond.methodLink "LorryArms" (100 : Nat) ({ cls := "LorryArms", name := "isLastDigitOfLength", desc := "(II)Z" } : Jvm.MethodName)) ∈ gw9 := gw9_in 222 (by decide +kernel) rfl
theorem w9_223 : (Jvm.Cond.static ({ cls := "LorryArms", name := "isLastDigitOfLength", desc := "(II)Z" } : Jvm.MethodName)) ∈ gw9 := gw9_in 223 (by decide +kernel) rfl
theorem w9_224 : (Jvm.Cond.code ({ cls := "LorryArms", name := "isLastDigitOfLength", desc := "(II)Z" } : Jvm.MethodName) prog_1_method_13_code (2 : Nat) (Option.some Jvm.ClassFile.FieldType.boolean)) ∈ gw9 := gw9_in 224 (by decide +kernel) rfl
theorem w9_225 : (Jvm.Cond.methodLink "LorryArms" (63 : Nat) ({ cls := "LorryArms", name := "commandLength", desc := "(I)I" } : Jvm.MethodName)) ∈ gw9 := gw9_in 225 (by decide +kernel) rfl
theorem w9_227 : (Jvm.Cond.instanceMethod ({ cls := "LorryArms", name := "commandLength", desc := "(I)I" } : Jvm.MethodName)) ∈ gw9 := gw9_in 227 (by decide +kernel) rfl
theorem w9_228 : (Jvm.Cond.code ({ cls := "LorryArms", name := "commandLength", desc := "(I)I" } : Jvm.MethodName) prog_1_method_15_code (3 : Nat) (Option.some Jvm.ClassFile.FieldType.int)) ∈ gw9 := gw9_in 228 (by decide +kernel) rfl
theorem w9_229 : (Jvm.Cond.methodLink "LorryArmsLaw" (96 : Nat) ({ cls := "LorryArmsLaw", name := "append", desc := "(LLorryArms;I[J)I" } : Jvm.MethodName)) ∈ gw9 := gw9_in 229 (by decide +kernel) rfl
theorem w9_230 : (Jvm.Cond.static ({ cls := "LorryArmsLaw", name := "append", desc := "(LLorryArms;I[J)I" } : Jvm.MethodName)) ∈ gw9 := gw9_in 230 (by decide +kernel) rfl
theorem w9_231 : (Jvm.Cond.codeWith ({ cls := "LorryArmsLaw", name := "append", desc := "(LLorryArms;I[J)I" } : Jvm.MethodName) method_3_code (4 : Nat) (Option.some Jvm.ClassFile.FieldType.int) [((0 : Nat), (9 : Nat), (12 : Nat), (13 : Nat)), ((0 : Nat), (9 : Nat), (15 : Nat), (15 : Nat))]) ∈ gw9 := gw9_in 231 (by decide +kernel) rfl
theorem w9_232 : (Jvm.Cond.classLink "LorryArmsLaw" (13 : Nat) "java/lang/IllegalArgumentException") ∈ gw9 := gw9_in 232 (by decide +kernel) rfl
theorem w9_233 : (Jvm.Cond.classLink "LorryArmsLaw" (15 : Nat) "java/lang/IllegalStateException") ∈ gw9 := gw9_in 233 (by decide +kernel) rfl
theorem w9_234 : (Jvm.Cond.methodLink "LorryArmsLaw" (7 : Nat) ({ cls := "LorryArms", name := "append", desc := "(I)I" } : Jvm.MethodName)) ∈ gw9 := gw9_in 234 (by decide +kernel) rfl
theorem w9_235 : (Jvm.Cond.instanceMethod ({ cls := "LorryArms", name := "append", desc := "(I)I" } : Jvm.MethodName)) ∈ gw9 := gw9_in 235 (by decide +kernel) rfl
theorem w9_236 : (Jvm.Cond.selects "LorryArms" ({ cls := "LorryArms", name := "append", desc := "(I)I" } : Jvm.MethodName) ({ cls := "LorryArms", name := "append", desc := "(I)I" } : Jvm.MethodName)) ∈ gw9 := gw9_in 236 (by decide +kernel) rfl
theorem w9_237 : (Jvm.Cond.code ({ cls := "LorryArms", name := "append", desc := "(I)I" } : Jvm.MethodName) prog_1_method_2_code (2 : Nat) (Option.some Jvm.ClassFile.FieldType.int)) ∈ gw9 := gw9_in 237 (by decide +kernel) rfl
theorem w9_238 : (Jvm.Cond.classLink "LorryArms" (44 : Nat) "java/lang/IllegalArgumentException") ∈ gw9 := gw9_in 238 (by decide +kernel) rfl
theorem w9_306 : (Jvm.Cond.classLink "LorryArms" (51 : Nat) "java/lang/IllegalStateException") ∈ gw9 := gw9_in 306 (by decide +kernel) rfl
theorem w9_322 : (Jvm.Cond.methodLink "LorryArmsLaw" (113 : Nat) ({ cls := "LorryArmsLaw", name := "load", desc := "(LLorryArms;[J)I" } : Jvm.MethodName)) ∈ gw9 := gw9_in 322 (by decide +kernel) rfl
theorem w9_323 : (Jvm.Cond.static ({ cls := "LorryArmsLaw", name := "load", desc := "(LLorryArms;[J)I" } : Jvm.MethodName)) ∈ gw9 := gw9_in 323 (by decide +kernel) rfl
theorem w9_324 : (Jvm.Cond.codeWith ({ cls := "LorryArmsLaw", name := "load", desc := "(LLorryArms;[J)I" } : Jvm.MethodName) method_4_code (3 : Nat) (Option.some Jvm.ClassFile.FieldType.int) [((0 : Nat), (8 : Nat), (11 : Nat), (15 : Nat))]) ∈ gw9 := gw9_in 324 (by decide +kernel) rfl
theorem w9_325 : (Jvm.Cond.methodLink "LorryArmsLaw" (17 : Nat) ({ cls := "LorryArms", name := "load", desc := "()I" } : Jvm.MethodName)) ∈ gw9 := gw9_in 325 (by decide +kernel) rfl
theorem w9_326 : (Jvm.Cond.instanceMethod ({ cls := "LorryArms", name := "load", desc := "()I" } : Jvm.MethodName)) ∈ gw9 := gw9_in 326 (by decide +kernel) rfl
theorem w9_327 : (Jvm.Cond.selects "LorryArms" ({ cls := "LorryArms", name := "load", desc := "()I" } : Jvm.MethodName) ({ cls := "LorryArms", name := "load", desc := "()I" } : Jvm.MethodName)) ∈ gw9 := gw9_in 327 (by decide +kernel) rfl
theorem w9_328 : (Jvm.Cond.code ({ cls := "LorryArms", name := "load", desc := "()I" } : Jvm.MethodName) prog_1_method_5_code (4 : Nat) (Option.some Jvm.ClassFile.FieldType.int)) ∈ gw9 := gw9_in 328 (by decide +kernel) rfl
theorem w9_329 : (Jvm.Cond.methodLink "LorryArms" (66 : Nat) ({ cls := "LorryArms", name := "errorPosition", desc := "()I" } : Jvm.MethodName)) ∈ gw9 := gw9_in 329 (by decide +kernel) rfl
theorem w9_331 : (Jvm.Cond.methodLink "LorryArms" (72 : Nat) ({ cls := "LorryArms$Gate", name := "clear", desc := "()V" } : Jvm.MethodName)) ∈ gw9 := gw9_in 331 (by decide +kernel) rfl
theorem w9_332 : (Jvm.Cond.methodLink "LorryArms" (75 : Nat) ({ cls := "LorryArms", name := "forgetAll", desc := "()V" } : Jvm.MethodName)) ∈ gw9 := gw9_in 332 (by decide +kernel) rfl
theorem w9_334 : (Jvm.Cond.instanceMethod ({ cls := "LorryArms", name := "forgetAll", desc := "()V" } : Jvm.MethodName)) ∈ gw9 := gw9_in 334 (by decide +kernel) rfl
theorem w9_335 : (Jvm.Cond.code ({ cls := "LorryArms", name := "forgetAll", desc := "()V" } : Jvm.MethodName) prog_1_method_35_code (1 : Nat) (Option.none : Option Jvm.ClassFile.FieldType)) ∈ gw9 := gw9_in 335 (by decide +kernel) rfl
theorem w9_336 : (Jvm.Cond.methodLink "LorryArms" (78 : Nat) ({ cls := "LorryArms", name := "doCommand", desc := "(I)Z" } : Jvm.MethodName)) ∈ gw9 := gw9_in 336 (by decide +kernel) rfl
theorem w9_338 : (Jvm.Cond.instanceMethod ({ cls := "LorryArms", name := "doCommand", desc := "(I)Z" } : Jvm.MethodName)) ∈ gw9 := gw9_in 338 (by decide +kernel) rfl
theorem w9_339 : (Jvm.Cond.code ({ cls := "LorryArms", name := "doCommand", desc := "(I)Z" } : Jvm.MethodName) prog_1_method_16_code (2 : Nat) (Option.some Jvm.ClassFile.FieldType.boolean)) ∈ gw9 := gw9_in 339 (by decide +kernel) rfl
theorem w9_340 : (Jvm.Cond.methodLink "LorryArms" (103 : Nat) ({ cls := "LorryArms$Gate", name := "addLane", desc := "()Z" } : Jvm.MethodName)) ∈ gw9 := gw9_in 340 (by decide +kernel) rfl
theorem w9_341 : (Jvm.Cond.instanceMethod ({ cls := "LorryArms$Gate", name := "addLane", desc := "()Z" } : Jvm.MethodName)) ∈ gw9 := gw9_in 341 (by decide +kernel) rfl
theorem w9_342 : (Jvm.Cond.selects "LorryArms$Gate" ({ cls := "LorryArms$Gate", name := "addLane", desc := "()Z" } : Jvm.MethodName) ({ cls := "LorryArms$Gate", name := "addLane", desc := "()Z" } : Jvm.MethodName)) ∈ gw9 := gw9_in 342 (by decide +kernel) rfl
theorem w9_343 : (Jvm.Cond.code ({ cls := "LorryArms$Gate", name := "addLane", desc := "()Z" } : Jvm.MethodName) prog_2_method_5_code (1 : Nat) (Option.some Jvm.ClassFile.FieldType.boolean)) ∈ gw9 := gw9_in 343 (by decide +kernel) rfl
theorem w9_344 : (Jvm.Cond.methodLink "LorryArms$Gate" (42 : Nat) ({ cls := "LorryArms$Lane", name := "clear", desc := "()V" } : Jvm.MethodName)) ∈ gw9 := gw9_in 344 (by decide +kernel) rfl
theorem w9_345 : (Jvm.Cond.methodLink "LorryArms" (107 : Nat) ({ cls := "LorryArms", name := "doArrival", desc := "(I)Z" } : Jvm.MethodName)) ∈ gw9 := gw9_in 345 (by decide +kernel) rfl
theorem w9_347 : (Jvm.Cond.instanceMethod ({ cls := "LorryArms", name := "doArrival", desc := "(I)Z" } : Jvm.MethodName)) ∈ gw9 := gw9_in 347 (by decide +kernel) rfl
theorem w9_348 : (Jvm.Cond.code ({ cls := "LorryArms", name := "doArrival", desc := "(I)Z" } : Jvm.MethodName) prog_1_method_17_code (4 : Nat) (Option.some Jvm.ClassFile.FieldType.boolean)) ∈ gw9 := gw9_in 348 (by decide +kernel) rfl
theorem w9_349 : (Jvm.Cond.methodLink "LorryArms" (82 : Nat) ({ cls := "LorryArms", name := "digitAt", desc := "(I)I" } : Jvm.MethodName)) ∈ gw9 := gw9_in 349 (by decide +kernel) rfl
theorem w9_351 : (Jvm.Cond.instanceMethod ({ cls := "LorryArms", name := "digitAt", desc := "(I)I" } : Jvm.MethodName)) ∈ gw9 := gw9_in 351 (by decide +kernel) rfl
theorem w9_352 : (Jvm.Cond.code ({ cls := "LorryArms", name := "digitAt", desc := "(I)I" } : Jvm.MethodName) prog_1_method_7_code (2 : Nat) (Option.some Jvm.ClassFile.FieldType.int)) ∈ gw9 := gw9_in 352 (by decide +kernel) rfl
theorem w9_353 : (Jvm.Cond.methodLink "LorryArms" (117 : Nat) ({ cls := "LorryArms", name := "twoDigitsAt", desc := "(I)I" } : Jvm.MethodName)) ∈ gw9 := gw9_in 353 (by decide +kernel) rfl
theorem w9_355 : (Jvm.Cond.instanceMethod ({ cls := "LorryArms", name := "twoDigitsAt", desc := "(I)I" } : Jvm.MethodName)) ∈ gw9 := gw9_in 355 (by decide +kernel) rfl
theorem w9_356 : (Jvm.Cond.code ({ cls := "LorryArms", name := "twoDigitsAt", desc := "(I)I" } : Jvm.MethodName) prog_1_method_8_code (2 : Nat) (Option.some Jvm.ClassFile.FieldType.int)) ∈ gw9 := gw9_in 356 (by decide +kernel) rfl
theorem w9_357 : (Jvm.Cond.methodLink "LorryArms" (123 : Nat) ({ cls := "LorryArms$Gate", name := "addVehicle", desc := "(IIZZ)Z" } : Jvm.MethodName)) ∈ gw9 := gw9_in 357 (by decide +kernel) rfl
theorem w9_358 : (Jvm.Cond.instanceMethod ({ cls := "LorryArms$Gate", name := "addVehicle", desc := "(IIZZ)Z" } : Jvm.MethodName)) ∈ gw9 := gw9_in 358 (by decide +kernel) rfl
theorem w9_359 : (Jvm.Cond.selects "LorryArms$Gate" ({ cls := "LorryArms$Gate", name := "addVehicle", desc := "(IIZZ)Z" } : Jvm.MethodName) ({ cls := "LorryArms$Gate", name := "addVehicle", desc := "(IIZZ)Z" } : Jvm.MethodName)) ∈ gw9 := gw9_in 359 (by decide +kernel) rfl
theorem w9_360 : (Jvm.Cond.code ({ cls := "LorryArms$Gate", name := "addVehicle", desc := "(IIZZ)Z" } : Jvm.MethodName) prog_2_method_6_code (5 : Nat) (Option.some Jvm.ClassFile.FieldType.boolean)) ∈ gw9 := gw9_in 360 (by decide +kernel) rfl
theorem w9_361 : (Jvm.Cond.methodLink "LorryArms$Gate" (43 : Nat) ({ cls := "LorryArms$Gate", name := "hasLane", desc := "(I)Z" } : Jvm.MethodName)) ∈ gw9 := gw9_in 361 (by decide +kernel) rfl
theorem w9_362 : (Jvm.Cond.instanceMethod ({ cls := "LorryArms$Gate", name := "hasLane", desc := "(I)Z" } : Jvm.MethodName)) ∈ gw9 := gw9_in 362 (by decide +kernel) rfl
theorem w9_363 : (Jvm.Cond.selects "LorryArms$Gate" ({ cls := "LorryArms$Gate", name := "hasLane", desc := "(I)Z" } : Jvm.MethodName) ({ cls := "LorryArms$Gate", name := "hasLane", desc := "(I)Z" } : Jvm.MethodName)) ∈ gw9 := gw9_in 363 (by decide +kernel) rfl
theorem w9_364 : (Jvm.Cond.code ({ cls := "LorryArms$Gate", name := "hasLane", desc := "(I)Z" } : Jvm.MethodName) prog_2_method_4_code (2 : Nat) (Option.some Jvm.ClassFile.FieldType.boolean)) ∈ gw9 := gw9_in 364 (by decide +kernel) rfl
theorem w9_365 : (Jvm.Cond.methodLink "LorryArms$Gate" (47 : Nat) ({ cls := "LorryArms$Lane", name := "addVehicle", desc := "(IZZ)Z" } : Jvm.MethodName)) ∈ gw9 := gw9_in 365 (by decide +kernel) rfl
theorem w9_366 : (Jvm.Cond.instanceMethod ({ cls := "LorryArms$Lane", name := "addVehicle", desc := "(IZZ)Z" } : Jvm.MethodName)) ∈ gw9 := gw9_in 366 (by decide +kernel) rfl
theorem w9_367 : (Jvm.Cond.selects "LorryArms$Lane" ({ cls := "LorryArms$Lane", name := "addVehicle", desc := "(IZZ)Z" } : Jvm.MethodName) ({ cls := "LorryArms$Lane", name := "addVehicle", desc := "(IZZ)Z" } : Jvm.MethodName)) ∈ gw9 := gw9_in 367 (by decide +kernel) rfl
theorem w9_368 : (Jvm.Cond.code ({ cls := "LorryArms$Lane", name := "addVehicle", desc := "(IZZ)Z" } : Jvm.MethodName) prog_3_method_7_code (5 : Nat) (Option.some Jvm.ClassFile.FieldType.boolean)) ∈ gw9 := gw9_in 368 (by decide +kernel) rfl
theorem w9_369 : (Jvm.Cond.methodLink "LorryArms$Lane" (73 : Nat) ({ cls := "LorryArms$Lane", name := "lastCell", desc := "(I)I" } : Jvm.MethodName)) ∈ gw9 := gw9_in 369 (by decide +kernel) rfl
theorem w9_371 : (Jvm.Cond.instanceMethod ({ cls := "LorryArms$Lane", name := "lastCell", desc := "(I)I" } : Jvm.MethodName)) ∈ gw9 := gw9_in 371 (by decide +kernel) rfl
theorem w9_372 : (Jvm.Cond.code ({ cls := "LorryArms$Lane", name := "lastCell", desc := "(I)I" } : Jvm.MethodName) prog_3_method_6_code (2 : Nat) (Option.some Jvm.ClassFile.FieldType.int)) ∈ gw9 := gw9_in 372 (by decide +kernel) rfl
theorem w9_373 : (Jvm.Cond.methodLink "LorryArms$Lane" (77 : Nat) ({ cls := "java/lang/Math", name := "min", desc := "(II)I" } : Jvm.MethodName)) ∈ gw9 := gw9_in 373 (by decide +kernel) rfl
theorem w9_374 : (Jvm.Cond.static ({ cls := "java/lang/Math", name := "min", desc := "(II)I" } : Jvm.MethodName)) ∈ gw9 := gw9_in 374 (by decide +kernel) rfl
theorem w9_375 : (Jvm.Cond.code ({ cls := "java/lang/Math", name := "min", desc := "(II)I" } : Jvm.MethodName) prog_10_method_69_code (2 : Nat) (Option.some Jvm.ClassFile.FieldType.int)) ∈ gw9 := gw9_in 375 (by decide +kernel) rfl
theorem w9_376 : (Jvm.Cond.methodLink "LorryArms" (110 : Nat) ({ cls := "LorryArms$Gate", name := "changeLoop", desc := "(IZ)Z" } : Jvm.MethodName)) ∈ gw9 := gw9_in 376 (by decide +kernel) rfl
theorem w9_377 : (Jvm.Cond.instanceMethod ({ cls := "LorryArms$Gate", name := "changeLoop", desc := "(IZ)Z" } : Jvm.MethodName)) ∈ gw9 := gw9_in 377 (by decide +kernel) rfl
theorem w9_378 : (Jvm.Cond.selects "LorryArms$Gate" ({ cls := "LorryArms$Gate", name := "changeLoop", desc := "(IZ)Z" } : Jvm.MethodName) ({ cls := "LorryArms$Gate", name := "changeLoop", desc := "(IZ)Z" } : Jvm.MethodName)) ∈ gw9 := gw9_in 378 (by decide +kernel) rfl
theorem w9_379 : (Jvm.Cond.code ({ cls := "LorryArms$Gate", name := "changeLoop", desc := "(IZ)Z" } : Jvm.MethodName) prog_2_method_7_code (3 : Nat) (Option.some Jvm.ClassFile.FieldType.boolean)) ∈ gw9 := gw9_in 379 (by decide +kernel) rfl
theorem w9_380 : (Jvm.Cond.methodLink "LorryArms" (114 : Nat) ({ cls := "LorryArms$Gate", name := "mendArm", desc := "(I)Z" } : Jvm.MethodName)) ∈ gw9 := gw9_in 380 (by decide +kernel) rfl
theorem w9_381 : (Jvm.Cond.instanceMethod ({ cls := "LorryArms$Gate", name := "mendArm", desc := "(I)Z" } : Jvm.MethodName)) ∈ gw9 := gw9_in 381 (by decide +kernel) rfl
theorem w9_382 : (Jvm.Cond.selects "LorryArms$Gate" ({ cls := "LorryArms$Gate", name := "mendArm", desc := "(I)Z" } : Jvm.MethodName) ({ cls := "LorryArms$Gate", name := "mendArm", desc := "(I)Z" } : Jvm.MethodName)) ∈ gw9 := gw9_in 382 (by decide +kernel) rfl
theorem w9_383 : (Jvm.Cond.code ({ cls := "LorryArms$Gate", name := "mendArm", desc := "(I)Z" } : Jvm.MethodName) prog_2_method_8_code (2 : Nat) (Option.some Jvm.ClassFile.FieldType.boolean)) ∈ gw9 := gw9_in 383 (by decide +kernel) rfl
theorem w9_384 : (Jvm.Cond.methodLink "LorryArms$Gate" (55 : Nat) ({ cls := "LorryArms$Lane", name := "canBeMended", desc := "()Z" } : Jvm.MethodName)) ∈ gw9 := gw9_in 384 (by decide +kernel) rfl
theorem w9_385 : (Jvm.Cond.instanceMethod ({ cls := "LorryArms$Lane", name := "canBeMended", desc := "()Z" } : Jvm.MethodName)) ∈ gw9 := gw9_in 385 (by decide +kernel) rfl
theorem w9_386 : (Jvm.Cond.selects "LorryArms$Lane" ({ cls := "LorryArms$Lane", name := "canBeMended", desc := "()Z" } : Jvm.MethodName) ({ cls := "LorryArms$Lane", name := "canBeMended", desc := "()Z" } : Jvm.MethodName)) ∈ gw9 := gw9_in 386 (by decide +kernel) rfl
theorem w9_387 : (Jvm.Cond.code ({ cls := "LorryArms$Lane", name := "canBeMended", desc := "()Z" } : Jvm.MethodName) prog_3_method_22_code (1 : Nat) (Option.some Jvm.ClassFile.FieldType.boolean)) ∈ gw9 := gw9_in 387 (by decide +kernel) rfl
theorem w9_388 : (Jvm.Cond.methodLink "LorryArms$Lane" (124 : Nat) ({ cls := "LorryArms$Lane", name := "isUnderArm", desc := "()Z" } : Jvm.MethodName)) ∈ gw9 := gw9_in 388 (by decide +kernel) rfl
theorem w9_390 : (Jvm.Cond.instanceMethod ({ cls := "LorryArms$Lane", name := "isUnderArm", desc := "()Z" } : Jvm.MethodName)) ∈ gw9 := gw9_in 390 (by decide +kernel) rfl
theorem w9_391 : (Jvm.Cond.code ({ cls := "LorryArms$Lane", name := "isUnderArm", desc := "()Z" } : Jvm.MethodName) prog_3_method_18_code (2 : Nat) (Option.some Jvm.ClassFile.FieldType.boolean)) ∈ gw9 := gw9_in 391 (by decide +kernel) rfl
theorem w9_392 : (Jvm.Cond.methodLink "LorryArms" (120 : Nat) ({ cls := "LorryArms$Gate", name := "letTicksGo", desc := "(I)Z" } : Jvm.MethodName)) ∈ gw9 := gw9_in 392 (by decide +kernel) rfl
theorem w9_393 : (Jvm.Cond.instanceMethod ({ cls := "LorryArms$Gate", name := "letTicksGo", desc := "(I)Z" } : Jvm.MethodName)) ∈ gw9 := gw9_in 393 (by decide +kernel) rfl
theorem w9_394 : (Jvm.Cond.selects "LorryArms$Gate" ({ cls := "LorryArms$Gate", name := "letTicksGo", desc := "(I)Z" } : Jvm.MethodName) ({ cls := "LorryArms$Gate", name := "letTicksGo", desc := "(I)Z" } : Jvm.MethodName)) ∈ gw9 := gw9_in 394 (by decide +kernel) rfl
theorem w9_395 : (Jvm.Cond.code ({ cls := "LorryArms$Gate", name := "letTicksGo", desc := "(I)Z" } : Jvm.MethodName) prog_2_method_9_code (4 : Nat) (Option.some Jvm.ClassFile.FieldType.boolean)) ∈ gw9 := gw9_in 395 (by decide +kernel) rfl
theorem w9_396 : (Jvm.Cond.methodLink "LorryArms$Gate" (62 : Nat) ({ cls := "LorryArms$Lane", name := "tick", desc := "([I)V" } : Jvm.MethodName)) ∈ gw9 := gw9_in 396 (by decide +kernel) rfl
theorem w9_397 : (Jvm.Cond.instanceMethod ({ cls := "LorryArms$Lane", name := "tick", desc := "([I)V" } : Jvm.MethodName)) ∈ gw9 := gw9_in 397 (by decide +kernel) rfl
theorem w9_398 : (Jvm.Cond.selects "LorryArms$Lane" ({ cls := "LorryArms$Lane", name := "tick", desc := "([I)V" } : Jvm.MethodName) ({ cls := "LorryArms$Lane", name := "tick", desc := "([I)V" } : Jvm.MethodName)) ∈ gw9 := gw9_in 398 (by decide +kernel) rfl
theorem w9_399 : (Jvm.Cond.code ({ cls := "LorryArms$Lane", name := "tick", desc := "([I)V" } : Jvm.MethodName) prog_3_method_8_code (2 : Nat) (Option.none : Option Jvm.ClassFile.FieldType)) ∈ gw9 := gw9_in 399 (by decide +kernel) rfl
theorem w9_400 : (Jvm.Cond.methodLink "LorryArms$Lane" (83 : Nat) ({ cls := "LorryArms$Lane", name := "moveVehicles", desc := "()V" } : Jvm.MethodName)) ∈ gw9 := gw9_in 400 (by decide +kernel) rfl
theorem w9_402 : (Jvm.Cond.instanceMethod ({ cls := "LorryArms$Lane", name := "moveVehicles", desc := "()V" } : Jvm.MethodName)) ∈ gw9 := gw9_in 402 (by decide +kernel) rfl
theorem w9_403 : (Jvm.Cond.code ({ cls := "LorryArms$Lane", name := "moveVehicles", desc := "()V" } : Jvm.MethodName) prog_3_method_9_code (2 : Nat) (Option.none : Option Jvm.ClassFile.FieldType)) ∈ gw9 := gw9_in 403 (by decide +kernel) rfl
theorem w9_404 : (Jvm.Cond.methodLink "LorryArms$Lane" (104 : Nat) ({ cls := "LorryArms$Lane", name := "canMove", desc := "(I)Z" } : Jvm.MethodName)) ∈ gw9 := gw9_in 404 (by decide +kernel) rfl
theorem w9_406 : (Jvm.Cond.instanceMethod ({ cls := "LorryArms$Lane", name := "canMove", desc := "(I)Z" } : Jvm.MethodName)) ∈ gw9 := gw9_in 406 (by decide +kernel) rfl
theorem w9_407 : (Jvm.Cond.code ({ cls := "LorryArms$Lane", name := "canMove", desc := "(I)Z" } : Jvm.MethodName) prog_3_method_10_code (3 : Nat) (Option.some Jvm.ClassFile.FieldType.boolean)) ∈ gw9 := gw9_in 407 (by decide +kernel) rfl
theorem w9_408 : (Jvm.Cond.methodLink "LorryArms$Lane" (108 : Nat) ({ cls := "LorryArms$Lane", name := "removeFirst", desc := "()V" } : Jvm.MethodName)) ∈ gw9 := gw9_in 408 (by decide +kernel) rfl
theorem w9_410 : (Jvm.Cond.instanceMethod ({ cls := "LorryArms$Lane", name := "removeFirst", desc := "()V" } : Jvm.MethodName)) ∈ gw9 := gw9_in 410 (by decide +kernel) rfl
theorem w9_411 : (Jvm.Cond.code ({ cls := "LorryArms$Lane", name := "removeFirst", desc := "()V" } : Jvm.MethodName) prog_3_method_11_code (2 : Nat) (Option.none : Option Jvm.ClassFile.FieldType)) ∈ gw9 := gw9_in 411 (by decide +kernel) rfl
theorem w9_412 : (Jvm.Cond.methodLink "LorryArms$Lane" (69 : Nat) ({ cls := "LorryArms$Lane", name := "copyVehicle", desc := "(LLorryArms$Lane;II)V" } : Jvm.MethodName)) ∈ gw9 := gw9_in 412 (by decide +kernel) rfl
theorem w9_414 : (Jvm.Cond.instanceMethod ({ cls := "LorryArms$Lane", name := "copyVehicle", desc := "(LLorryArms$Lane;II)V" } : Jvm.MethodName)) ∈ gw9 := gw9_in 414 (by decide +kernel) rfl
theorem w9_415 : (Jvm.Cond.code ({ cls := "LorryArms$Lane", name := "copyVehicle", desc := "(LLorryArms$Lane;II)V" } : Jvm.MethodName) prog_3_method_4_code (4 : Nat) (Option.none : Option Jvm.ClassFile.FieldType)) ∈ gw9 := gw9_in 415 (by decide +kernel) rfl
theorem w9_416 : (Jvm.Cond.methodLink "LorryArms$Lane" (86 : Nat) ({ cls := "LorryArms$Lane", name := "checkTicket", desc := "(III)V" } : Jvm.MethodName)) ∈ gw9 := gw9_in 416 (by decide +kernel) rfl
theorem w9_418 : (Jvm.Cond.instanceMethod ({ cls := "LorryArms$Lane", name := "checkTicket", desc := "(III)V" } : Jvm.MethodName)) ∈ gw9 := gw9_in 418 (by decide +kernel) rfl
theorem w9_419 : (Jvm.Cond.code ({ cls := "LorryArms$Lane", name := "checkTicket", desc := "(III)V" } : Jvm.MethodName) prog_3_method_12_code (5 : Nat) (Option.none : Option Jvm.ClassFile.FieldType)) ∈ gw9 := gw9_in 419 (by decide +kernel) rfl
theorem w9_420 : (Jvm.Cond.methodLink "LorryArms$Lane" (111 : Nat) ({ cls := "LorryArms$Lane", name := "vehicleInCheck", desc := "()I" } : Jvm.MethodName)) ∈ gw9 := gw9_in 420 (by decide +kernel) rfl
theorem w9_422 : (Jvm.Cond.instanceMethod ({ cls := "LorryArms$Lane", name := "vehicleInCheck", desc := "()I" } : Jvm.MethodName)) ∈ gw9 := gw9_in 422 (by decide +kernel) rfl
theorem w9_423 : (Jvm.Cond.code ({ cls := "LorryArms$Lane", name := "vehicleInCheck", desc := "()I" } : Jvm.MethodName) prog_3_method_13_code (2 : Nat) (Option.some Jvm.ClassFile.FieldType.int)) ∈ gw9 := gw9_in 423 (by decide +kernel) rfl
theorem w9_424 : (Jvm.Cond.methodLink "LorryArms$Lane" (90 : Nat) ({ cls := "LorryArms$Lane", name := "reason", desc := "()I" } : Jvm.MethodName)) ∈ gw9 := gw9_in 424 (by decide +kernel) rfl
theorem w9_425 : (Jvm.Cond.instanceMethod ({ cls := "LorryArms$Lane", name := "reason", desc := "()I" } : Jvm.MethodName)) ∈ gw9 := gw9_in 425 (by decide +kernel) rfl
theorem w9_426 : (Jvm.Cond.selects "LorryArms$Lane" ({ cls := "LorryArms$Lane", name := "reason", desc := "()I" } : Jvm.MethodName) ({ cls := "LorryArms$Lane", name := "reason", desc := "()I" } : Jvm.MethodName)) ∈ gw9 := gw9_in 426 (by decide +kernel) rfl
theorem w9_427 : (Jvm.Cond.code ({ cls := "LorryArms$Lane", name := "reason", desc := "()I" } : Jvm.MethodName) prog_3_method_15_code (1 : Nat) (Option.some Jvm.ClassFile.FieldType.int)) ∈ gw9 := gw9_in 427 (by decide +kernel) rfl
theorem w9_428 : (Jvm.Cond.methodLink "LorryArms$Lane" (117 : Nat) ({ cls := "LorryArms$Lane", name := "letVehicleWaits", desc := "()Z" } : Jvm.MethodName)) ∈ gw9 := gw9_in 428 (by decide +kernel) rfl
theorem w9_430 : (Jvm.Cond.instanceMethod ({ cls := "LorryArms$Lane", name := "letVehicleWaits", desc := "()Z" } : Jvm.MethodName)) ∈ gw9 := gw9_in 430 (by decide +kernel) rfl
theorem w9_431 : (Jvm.Cond.code ({ cls := "LorryArms$Lane", name := "letVehicleWaits", desc := "()Z" } : Jvm.MethodName) prog_3_method_16_code (2 : Nat) (Option.some Jvm.ClassFile.FieldType.boolean)) ∈ gw9 := gw9_in 431 (by decide +kernel) rfl
theorem w9_432 : (Jvm.Cond.methodLink "LorryArms$Lane" (121 : Nat) ({ cls := "LorryArms$Lane", name := "isLoopCovered", desc := "()Z" } : Jvm.MethodName)) ∈ gw9 := gw9_in 432 (by decide +kernel) rfl
theorem w9_434 : (Jvm.Cond.instanceMethod ({ cls := "LorryArms$Lane", name := "isLoopCovered", desc := "()Z" } : Jvm.MethodName)) ∈ gw9 := gw9_in 434 (by decide +kernel) rfl
theorem w9_435 : (Jvm.Cond.code ({ cls := "LorryArms$Lane", name := "isLoopCovered", desc := "()Z" } : Jvm.MethodName) prog_3_method_17_code (2 : Nat) (Option.some Jvm.ClassFile.FieldType.boolean)) ∈ gw9 := gw9_in 435 (by decide +kernel) rfl
theorem w9_436 : (Jvm.Cond.methodLink "LorryArms$Lane" (94 : Nat) ({ cls := "LorryArms$Lane", name := "moveArm", desc := "(Z)V" } : Jvm.MethodName)) ∈ gw9 := gw9_in 436 (by decide +kernel) rfl
theorem w9_438 : (Jvm.Cond.instanceMethod ({ cls := "LorryArms$Lane", name := "moveArm", desc := "(Z)V" } : Jvm.MethodName)) ∈ gw9 := gw9_in 438 (by decide +kernel) rfl
theorem w9_439 : (Jvm.Cond.code ({ cls := "LorryArms$Lane", name := "moveArm", desc := "(Z)V" } : Jvm.MethodName) prog_3_method_14_code (2 : Nat) (Option.none : Option Jvm.ClassFile.FieldType)) ∈ gw9 := gw9_in 439 (by decide +kernel) rfl
theorem w9_440 : (Jvm.Cond.methodLink "LorryArms$Lane" (114 : Nat) ({ cls := "java/lang/Math", name := "max", desc := "(II)I" } : Jvm.MethodName)) ∈ gw9 := gw9_in 440 (by decide +kernel) rfl
theorem w9_441 : (Jvm.Cond.static ({ cls := "java/lang/Math", name := "max", desc := "(II)I" } : Jvm.MethodName)) ∈ gw9 := gw9_in 441 (by decide +kernel) rfl
theorem w9_442 : (Jvm.Cond.code ({ cls := "java/lang/Math", name := "max", desc := "(II)I" } : Jvm.MethodName) prog_10_method_65_code (2 : Nat) (Option.some Jvm.ClassFile.FieldType.int)) ∈ gw9 := gw9_in 442 (by decide +kernel) rfl
theorem w9_443 : (Jvm.Cond.methodLink "LorryArms$Lane" (98 : Nat) ({ cls := "LorryArms$Lane", name := "hitIfUnderArm", desc := "()V" } : Jvm.MethodName)) ∈ gw9 := gw9_in 443 (by decide +kernel) rfl
theorem w9_445 : (Jvm.Cond.instanceMethod ({ cls := "LorryArms$Lane", name := "hitIfUnderArm", desc := "()V" } : Jvm.MethodName)) ∈ gw9 := gw9_in 445 (by decide +kernel) rfl
theorem w9_446 : (Jvm.Cond.code ({ cls := "LorryArms$Lane", name := "hitIfUnderArm", desc := "()V" } : Jvm.MethodName) prog_3_method_19_code (1 : Nat) (Option.none : Option Jvm.ClassFile.FieldType)) ∈ gw9 := gw9_in 446 (by decide +kernel) rfl
theorem w9_447 : (Jvm.Cond.methodLink "LorryArms$Lane" (101 : Nat) ({ cls := "LorryArms$Lane", name := "countThrough", desc := "()V" } : Jvm.MethodName)) ∈ gw9 := gw9_in 447 (by decide +kernel) rfl
theorem w9_449 : (Jvm.Cond.instanceMethod ({ cls := "LorryArms$Lane", name := "countThrough", desc := "()V" } : Jvm.MethodName)) ∈ gw9 := gw9_in 449 (by decide +kernel) rfl
theorem w9_450 : (Jvm.Cond.code ({ cls := "LorryArms$Lane", name := "countThrough", desc := "()V" } : Jvm.MethodName) prog_3_method_20_code (2 : Nat) (Option.none : Option Jvm.ClassFile.FieldType)) ∈ gw9 := gw9_in 450 (by decide +kernel) rfl
theorem w9_451 : (Jvm.Cond.methodLink "LorryArmsLaw" (117 : Nat) ({ cls := "LorryArmsLaw", name := "about", desc := "(LLorryArms;I[J)I" } : Jvm.MethodName)) ∈ gw9 := gw9_in 451 (by decide +kernel) rfl
theorem w9_452 : (Jvm.Cond.static ({ cls := "LorryArmsLaw", name := "about", desc := "(LLorryArms;I[J)I" } : Jvm.MethodName)) ∈ gw9 := gw9_in 452 (by decide +kernel) rfl
theorem w9_453 : (Jvm.Cond.codeWith ({ cls := "LorryArmsLaw", name := "about", desc := "(LLorryArms;I[J)I" } : Jvm.MethodName) method_5_code (4 : Nat) (Option.some Jvm.ClassFile.FieldType.int) [((0 : Nat), (9 : Nat), (12 : Nat), (13 : Nat))]) ∈ gw9 := gw9_in 453 (by decide +kernel) rfl
theorem w9_454 : (Jvm.Cond.methodLink "LorryArmsLaw" (21 : Nat) ({ cls := "LorryArms", name := "about", desc := "(I)I" } : Jvm.MethodName)) ∈ gw9 := gw9_in 454 (by decide +kernel) rfl
theorem w9_455 : (Jvm.Cond.instanceMethod ({ cls := "LorryArms", name := "about", desc := "(I)I" } : Jvm.MethodName)) ∈ gw9 := gw9_in 455 (by decide +kernel) rfl
theorem w9_456 : (Jvm.Cond.selects "LorryArms" ({ cls := "LorryArms", name := "about", desc := "(I)I" } : Jvm.MethodName) ({ cls := "LorryArms", name := "about", desc := "(I)I" } : Jvm.MethodName)) ∈ gw9 := gw9_in 456 (by decide +kernel) rfl
theorem w9_457 : (Jvm.Cond.code ({ cls := "LorryArms", name := "about", desc := "(I)I" } : Jvm.MethodName) prog_1_method_18_code (2 : Nat) (Option.some Jvm.ClassFile.FieldType.int)) ∈ gw9 := gw9_in 457 (by decide +kernel) rfl
theorem w9_459 : (Jvm.Cond.methodLink "LorryArms" (135 : Nat) ({ cls := "LorryArms$Gate", name := "total", desc := "(I)I" } : Jvm.MethodName)) ∈ gw9 := gw9_in 459 (by decide +kernel) rfl
theorem w9_460 : (Jvm.Cond.instanceMethod ({ cls := "LorryArms$Gate", name := "total", desc := "(I)I" } : Jvm.MethodName)) ∈ gw9 := gw9_in 460 (by decide +kernel) rfl
theorem w9_461 : (Jvm.Cond.selects "LorryArms$Gate" ({ cls := "LorryArms$Gate", name := "total", desc := "(I)I" } : Jvm.MethodName) ({ cls := "LorryArms$Gate", name := "total", desc := "(I)I" } : Jvm.MethodName)) ∈ gw9 := gw9_in 461 (by decide +kernel) rfl
theorem w9_462 : (Jvm.Cond.code ({ cls := "LorryArms$Gate", name := "total", desc := "(I)I" } : Jvm.MethodName) prog_2_method_11_code (4 : Nat) (Option.some Jvm.ClassFile.FieldType.int)) ∈ gw9 := gw9_in 462 (by decide +kernel) rfl
theorem w9_463 : (Jvm.Cond.methodLink "LorryArms$Gate" (70 : Nat) ({ cls := "LorryArms$Lane", name := "tally", desc := "(I)I" } : Jvm.MethodName)) ∈ gw9 := gw9_in 463 (by decide +kernel) rfl
theorem w9_464 : (Jvm.Cond.instanceMethod ({ cls := "LorryArms$Lane", name := "tally", desc := "(I)I" } : Jvm.MethodName)) ∈ gw9 := gw9_in 464 (by decide +kernel) rfl
theorem w9_465 : (Jvm.Cond.selects "LorryArms$Lane" ({ cls := "LorryArms$Lane", name := "tally", desc := "(I)I" } : Jvm.MethodName) ({ cls := "LorryArms$Lane", name := "tally", desc := "(I)I" } : Jvm.MethodName)) ∈ gw9 := gw9_in 465 (by decide +kernel) rfl
theorem w9_466 : (Jvm.Cond.code ({ cls := "LorryArms$Lane", name := "tally", desc := "(I)I" } : Jvm.MethodName) prog_3_method_26_code (2 : Nat) (Option.some Jvm.ClassFile.FieldType.int)) ∈ gw9 := gw9_in 466 (by decide +kernel) rfl
theorem w9_467 : (Jvm.Cond.methodLink "LorryArmsLaw" (120 : Nat) ({ cls := "LorryArmsLaw", name := "laneOf", desc := "(LLorryArms;II[J)I" } : Jvm.MethodName)) ∈ gw9 := gw9_in 467 (by decide +kernel) rfl
theorem w9_468 : (Jvm.Cond.static ({ cls := "LorryArmsLaw", name := "laneOf", desc := "(LLorryArms;II[J)I" } : Jvm.MethodName)) ∈ gw9 := gw9_in 468 (by decide +kernel) rfl
theorem w9_469 : (Jvm.Cond.codeWith ({ cls := "LorryArmsLaw", name := "laneOf", desc := "(LLorryArms;II[J)I" } : Jvm.MethodName) method_6_code (5 : Nat) (Option.some Jvm.ClassFile.FieldType.int) [((0 : Nat), (10 : Nat), (13 : Nat), (28 : Nat)), ((0 : Nat), (10 : Nat), (17 : Nat), (13 : Nat))]) ∈ gw9 := gw9_in 469 (by decide +kernel) rfl
theorem w9_470 : (Jvm.Cond.classLink "LorryArmsLaw" (28 : Nat) "java/lang/IndexOutOfBoundsException") ∈ gw9 := gw9_in 470 (by decide +kernel) rfl
theorem w9_471 : (Jvm.Cond.methodLink "LorryArmsLaw" (24 : Nat) ({ cls := "LorryArms", name := "laneOf", desc := "(II)I" } : Jvm.MethodName)) ∈ gw9 := gw9_in 471 (by decide +kernel) rfl
theorem w9_472 : (Jvm.Cond.instanceMethod ({ cls := "LorryArms", name := "laneOf", desc := "(II)I" } : Jvm.MethodName)) ∈ gw9 := gw9_in 472 (by decide +kernel) rfl
theorem w9_473 : (Jvm.Cond.selects "LorryArms" ({ cls := "LorryArms", name := "laneOf", desc := "(II)I" } : Jvm.MethodName) ({ cls := "LorryArms", name := "laneOf", desc := "(II)I" } : Jvm.MethodName)) ∈ gw9 := gw9_in 473 (by decide +kernel) rfl
theorem w9_474 : (Jvm.Cond.code ({ cls := "LorryArms", name := "laneOf", desc := "(II)I" } : Jvm.MethodName) prog_1_method_19_code (3 : Nat) (Option.some Jvm.ClassFile.FieldType.int)) ∈ gw9 := gw9_in 474 (by decide +kernel) rfl
theorem w9_475 : (Jvm.Cond.methodLink "LorryArms" (138 : Nat) ({ cls := "LorryArms", name := "checkLane", desc := "(I)V" } : Jvm.MethodName)) ∈ gw9 := gw9_in 475 (by decide +kernel) rfl
theorem w9_477 : (Jvm.Cond.instanceMethod ({ cls := "LorryArms", name := "checkLane", desc := "(I)V" } : Jvm.MethodName)) ∈ gw9 := gw9_in 477 (by decide +kernel) rfl
theorem w9_478 : (Jvm.Cond.code ({ cls := "LorryArms", name := "checkLane", desc := "(I)V" } : Jvm.MethodName) prog_1_method_23_code (2 : Nat) (Option.none : Option Jvm.ClassFile.FieldType)) ∈ gw9 := gw9_in 478 (by decide +kernel) rfl
theorem w9_479 : (Jvm.Cond.methodLink "LorryArms" (172 : Nat) ({ cls := "LorryArms$Gate", name := "hasLane", desc := "(I)Z" } : Jvm.MethodName)) ∈ gw9 := gw9_in 479 (by decide +kernel) rfl
theorem w9_480 : (Jvm.Cond.classLink "LorryArms" (175 : Nat) "java/lang/IndexOutOfBoundsException") ∈ gw9 := gw9_in 480 (by decide +kernel) rfl
theorem w9_497 : (Jvm.Cond.methodLink "LorryArms" (148 : Nat) ({ cls := "LorryArms$Lane", name := "number", desc := "(I)I" } : Jvm.MethodName)) ∈ gw9 := gw9_in 497 (by decide +kernel) rfl
theorem w9_498 : (Jvm.Cond.instanceMethod ({ cls := "LorryArms$Lane", name := "number", desc := "(I)I" } : Jvm.MethodName)) ∈ gw9 := gw9_in 498 (by decide +kernel) rfl
theorem w9_499 : (Jvm.Cond.selects "LorryArms$Lane" ({ cls := "LorryArms$Lane", name := "number", desc := "(I)I" } : Jvm.MethodName) ({ cls := "LorryArms$Lane", name := "number", desc := "(I)I" } : Jvm.MethodName)) ∈ gw9 := gw9_in 499 (by decide +kernel) rfl
theorem w9_500 : (Jvm.Cond.code ({ cls := "LorryArms$Lane", name := "number", desc := "(I)I" } : Jvm.MethodName) prog_3_method_24_code (2 : Nat) (Option.some Jvm.ClassFile.FieldType.int)) ∈ gw9 := gw9_in 500 (by decide +kernel) rfl
theorem w9_501 : (Jvm.Cond.methodLink "LorryArms$Lane" (130 : Nat) ({ cls := "LorryArms$Lane", name := "countUnlet", desc := "()I" } : Jvm.MethodName)) ∈ gw9 := gw9_in 501 (by decide +kernel) rfl
theorem w9_503 : (Jvm.Cond.instanceMethod ({ cls := "LorryArms$Lane", name := "countUnlet", desc := "()I" } : Jvm.MethodName)) ∈ gw9 := gw9_in 503 (by decide +kernel) rfl
theorem w9_504 : (Jvm.Cond.code ({ cls := "LorryArms$Lane", name := "countUnlet", desc := "()I" } : Jvm.MethodName) prog_3_method_23_code (3 : Nat) (Option.some Jvm.ClassFile.FieldType.int)) ∈ gw9 := gw9_in 504 (by decide +kernel) rfl
theorem w9_505 : (Jvm.Cond.methodLink "LorryArmsLaw" (124 : Nat) ({ cls := "LorryArmsLaw", name := "vehicle", desc := "(LLorryArms;III[J)I" } : Jvm.MethodName)) ∈ gw9 := gw9_in 505 (by decide +kernel) rfl
theorem w9_506 : (Jvm.Cond.static ({ cls := "LorryArmsLaw", name := "vehicle", desc := "(LLorryArms;III[J)I" } : Jvm.MethodName)) ∈ gw9 := gw9_in 506 (by decide +kernel) rfl
theorem w9_507 : (Jvm.Cond.codeWith ({ cls := "LorryArmsLaw", name := "vehicle", desc := "(LLorryArms;III[J)I" } : Jvm.MethodName) method_7_code (6 : Nat) (Option.some Jvm.ClassFile.FieldType.int) [((0 : Nat), (12 : Nat), (15 : Nat), (28 : Nat)), ((0 : Nat), (12 : Nat), (19 : Nat), (13 : Nat))]) ∈ gw9 := gw9_in 507 (by decide +kernel) rfl
theorem w9_508 : (Jvm.Cond.methodLink "LorryArmsLaw" (30 : Nat) ({ cls := "LorryArms", name := "vehicle", desc := "(III)I" } : Jvm.MethodName)) ∈ gw9 := gw9_in 508 (by decide +kernel) rfl
theorem w9_509 : (Jvm.Cond.instanceMethod ({ cls := "LorryArms", name := "vehicle", desc := "(III)I" } : Jvm.MethodName)) ∈ gw9 := gw9_in 509 (by decide +kernel) rfl
theorem w9_510 : (Jvm.Cond.selects "LorryArms" ({ cls := "LorryArms", name := "vehicle", desc := "(III)I" } : Jvm.MethodName) ({ cls := "LorryArms", name := "vehicle", desc := "(III)I" } : Jvm.MethodName)) ∈ gw9 := gw9_in 510 (by decide +kernel) rfl
theorem w9_511 : (Jvm.Cond.code ({ cls := "LorryArms", name := "vehicle", desc := "(III)I" } : Jvm.MethodName) prog_1_method_20_code (4 : Nat) (Option.some Jvm.ClassFile.FieldType.int)) ∈ gw9 := gw9_in 511 (by decide +kernel) rfl
theorem w9_512 : (Jvm.Cond.methodLink "LorryArms" (153 : Nat) ({ cls := "LorryArms", name := "checkVehicle", desc := "(II)V" } : Jvm.MethodName)) ∈ gw9 := gw9_in 512 (by decide +kernel) rfl
theorem w9_514 : (Jvm.Cond.instanceMethod ({ cls := "LorryArms", name := "checkVehicle", desc := "(II)V" } : Jvm.MethodName)) ∈ gw9 := gw9_in 514 (by decide +kernel) rfl
theorem w9_515 : (Jvm.Cond.code ({ cls := "LorryArms", name := "checkVehicle", desc := "(II)V" } : Jvm.MethodName) prog_1_method_24_code (3 : Nat) (Option.none : Option Jvm.ClassFile.FieldType)) ∈ gw9 := gw9_in 515 (by decide +kernel) rfl
theorem w9_516 : (Jvm.Cond.methodLink "LorryArms" (180 : Nat) ({ cls := "LorryArms$Lane", name := "hasVehicle", desc := "(I)Z" } : Jvm.MethodName)) ∈ gw9 := gw9_in 516 (by decide +kernel) rfl
theorem w9_517 : (Jvm.Cond.instanceMethod ({ cls := "LorryArms$Lane", name := "hasVehicle", desc := "(I)Z" } : Jvm.MethodName)) ∈ gw9 := gw9_in 517 (by decide +kernel) rfl
theorem w9_518 : (Jvm.Cond.selects "LorryArms$Lane" ({ cls := "LorryArms$Lane", name := "hasVehicle", desc := "(I)Z" } : Jvm.MethodName) ({ cls := "LorryArms$Lane", name := "hasVehicle", desc := "(I)Z" } : Jvm.MethodName)) ∈ gw9 := gw9_in 518 (by decide +kernel) rfl
theorem w9_519 : (Jvm.Cond.code ({ cls := "LorryArms$Lane", name := "hasVehicle", desc := "(I)Z" } : Jvm.MethodName) prog_3_method_5_code (2 : Nat) (Option.some Jvm.ClassFile.FieldType.boolean)) ∈ gw9 := gw9_in 519 (by decide +kernel) rfl
theorem w9_522 : (Jvm.Cond.methodLink "LorryArms" (159 : Nat) ({ cls := "LorryArms$Lane", name := "numberOfVehicle", desc := "(II)I" } : Jvm.MethodName)) ∈ gw9 := gw9_in 522 (by decide +kernel) rfl
theorem w9_523 : (Jvm.Cond.instanceMethod ({ cls := "LorryArms$Lane", name := "numberOfVehicle", desc := "(II)I" } : Jvm.MethodName)) ∈ gw9 := gw9_in 523 (by decide +kernel) rfl
theorem w9_524 : (Jvm.Cond.selects "LorryArms$Lane" ({ cls := "LorryArms$Lane", name := "numberOfVehicle", desc := "(II)I" } : Jvm.MethodName) ({ cls := "LorryArms$Lane", name := "numberOfVehicle", desc := "(II)I" } : Jvm.MethodName)) ∈ gw9 := gw9_in 524 (by decide +kernel) rfl
theorem w9_525 : (Jvm.Cond.code ({ cls := "LorryArms$Lane", name := "numberOfVehicle", desc := "(II)I" } : Jvm.MethodName) prog_3_method_25_code (3 : Nat) (Option.some Jvm.ClassFile.FieldType.int)) ∈ gw9 := gw9_in 525 (by decide +kernel) rfl
theorem w9_526 : (Jvm.Cond.methodLink "LorryArms$Lane" (127 : Nat) ({ cls := "LorryArms$Lane", name := "hasVehicle", desc := "(I)Z" } : Jvm.MethodName)) ∈ gw9 := gw9_in 526 (by decide +kernel) rfl
theorem w9_527 : (Jvm.Cond.methodLink "LorryArmsLaw" (128 : Nat) ({ cls := "LorryArmsLaw", name := "why", desc := "(LLorryArms;I[J)I" } : Jvm.MethodName)) ∈ gw9 := gw9_in 527 (by decide +kernel) rfl
theorem w9_528 : (Jvm.Cond.static ({ cls := "LorryArmsLaw", name := "why", desc := "(LLorryArms;I[J)I" } : Jvm.MethodName)) ∈ gw9 := gw9_in 528 (by decide +kernel) rfl
theorem w9_529 : (Jvm.Cond.codeWith ({ cls := "LorryArmsLaw", name := "why", desc := "(LLorryArms;I[J)I" } : Jvm.MethodName) method_8_code (4 : Nat) (Option.some Jvm.ClassFile.FieldType.int) [((0 : Nat), (9 : Nat), (12 : Nat), (28 : Nat))]) ∈ gw9 := gw9_in 529 (by decide +kernel) rfl
theorem w9_530 : (Jvm.Cond.methodLink "LorryArmsLaw" (34 : Nat) ({ cls := "LorryArms", name := "why", desc := "(I)I" } : Jvm.MethodName)) ∈ gw9 := gw9_in 530 (by decide +kernel) rfl
theorem w9_531 : (Jvm.Cond.instanceMethod ({ cls := "LorryArms", name := "why", desc := "(I)I" } : Jvm.MethodName)) ∈ gw9 := gw9_in 531 (by decide +kernel) rfl
theorem w9_532 : (Jvm.Cond.selects "LorryArms" ({ cls := "LorryArms", name := "why", desc := "(I)I" } : Jvm.MethodName) ({ cls := "LorryArms", name := "why", desc := "(I)I" } : Jvm.MethodName)) ∈ gw9 := gw9_in 532 (by decide +kernel) rfl
theorem w9_533 : (Jvm.Cond.code ({ cls := "LorryArms", name := "why", desc := "(I)I" } : Jvm.MethodName) prog_1_method_21_code (2 : Nat) (Option.some Jvm.ClassFile.FieldType.int)) ∈ gw9 := gw9_in 533 (by decide +kernel) rfl
theorem w9_534 : (Jvm.Cond.methodLink "LorryArms" (163 : Nat) ({ cls := "LorryArms$Lane", name := "reason", desc := "()I" } : Jvm.MethodName)) ∈ gw9 := gw9_in 534 (by decide +kernel) rfl
theorem w9_535 : (Jvm.Cond.methodLink "LorryArmsLaw" (131 : Nat) ({ cls := "LorryArmsLaw", name := "setting", desc := "(LLorryArms;I[J)I" } : Jvm.MethodName)) ∈ gw9 := gw9_in 535 (by decide +kernel) rfl
theorem w9_536 : (Jvm.Cond.static ({ cls := "LorryArmsLaw", name := "setting", desc := "(LLorryArms;I[J)I" } : Jvm.MethodName)) ∈ gw9 := gw9_in 536 (by decide +kernel) rfl
theorem w9_537 : (Jvm.Cond.codeWith ({ cls := "LorryArmsLaw", name := "setting", desc := "(LLorryArms;I[J)I" } : Jvm.MethodName) method_9_code (4 : Nat) (Option.some Jvm.ClassFile.FieldType.int) [((0 : Nat), (9 : Nat), (12 : Nat), (13 : Nat))]) ∈ gw9 := gw9_in 537 (by decide +kernel) rfl
theorem w9_538 : (Jvm.Cond.methodLink "LorryArmsLaw" (37 : Nat) ({ cls := "LorryArms", name := "setting", desc := "(I)I" } : Jvm.MethodName)) ∈ gw9 := gw9_in 538 (by decide +kernel) rfl
theorem w9_539 : (Jvm.Cond.instanceMethod ({ cls := "LorryArms", name := "setting", desc := "(I)I" } : Jvm.MethodName)) ∈ gw9 := gw9_in 539 (by decide +kernel) rfl
theorem w9_540 : (Jvm.Cond.selects "LorryArms" ({ cls := "LorryArms", name := "setting", desc := "(I)I" } : Jvm.MethodName) ({ cls := "LorryArms", name := "setting", desc := "(I)I" } : Jvm.MethodName)) ∈ gw9 := gw9_in 540 (by decide +kernel) rfl
theorem w9_541 : (Jvm.Cond.code ({ cls := "LorryArms", name := "setting", desc := "(I)I" } : Jvm.MethodName) prog_1_method_22_code (2 : Nat) (Option.some Jvm.ClassFile.FieldType.int)) ∈ gw9 := gw9_in 541 (by decide +kernel) rfl
theorem w9_543 : (Jvm.Cond.methodLink "LorryArmsLaw" (134 : Nat) ({ cls := "LorryArmsLaw", name := "lane", desc := "(LLorryArms;[J)I" } : Jvm.MethodName)) ∈ gw9 := gw9_in 543 (by decide +kernel) rfl
theorem w9_544 : (Jvm.Cond.static ({ cls := "LorryArmsLaw", name := "lane", desc := "(LLorryArms;[J)I" } : Jvm.MethodName)) ∈ gw9 := gw9_in 544 (by decide +kernel) rfl
theorem w9_545 : (Jvm.Cond.codeWith ({ cls := "LorryArmsLaw", name := "lane", desc := "(LLorryArms;[J)I" } : Jvm.MethodName) method_10_code (3 : Nat) (Option.some Jvm.ClassFile.FieldType.int) [((0 : Nat), (8 : Nat), (11 : Nat), (15 : Nat))]) ∈ gw9 := gw9_in 545 (by decide +kernel) rfl
theorem w9_546 : (Jvm.Cond.methodLink "LorryArmsLaw" (40 : Nat) ({ cls := "LorryArms", name := "lane", desc := "()I" } : Jvm.MethodName)) ∈ gw9 := gw9_in 546 (by decide +kernel) rfl
theorem w9_547 : (Jvm.Cond.instanceMethod ({ cls := "LorryArms", name := "lane", desc := "()I" } : Jvm.MethodName)) ∈ gw9 := gw9_in 547 (by decide +kernel) rfl
theorem w9_548 : (Jvm.Cond.selects "LorryArms" ({ cls := "LorryArms", name := "lane", desc := "()I" } : Jvm.MethodName) ({ cls := "LorryArms", name := "lane", desc := "()I" } : Jvm.MethodName)) ∈ gw9 := gw9_in 548 (by decide +kernel) rfl
theorem w9_549 : (Jvm.Cond.code ({ cls := "LorryArms", name := "lane", desc := "()I" } : Jvm.MethodName) prog_1_method_26_code (1 : Nat) (Option.some Jvm.ClassFile.FieldType.int)) ∈ gw9 := gw9_in 549 (by decide +kernel) rfl
theorem w9_551 : (Jvm.Cond.methodLink "LorryArms" (189 : Nat) ({ cls := "LorryArms", name := "remember", desc := "()V" } : Jvm.MethodName)) ∈ gw9 := gw9_in 551 (by decide +kernel) rfl
theorem w9_553 : (Jvm.Cond.instanceMethod ({ cls := "LorryArms", name := "remember", desc := "()V" } : Jvm.MethodName)) ∈ gw9 := gw9_in 553 (by decide +kernel) rfl
theorem w9_554 : (Jvm.Cond.code ({ cls := "LorryArms", name := "remember", desc := "()V" } : Jvm.MethodName) prog_1_method_34_code (1 : Nat) (Option.none : Option Jvm.ClassFile.FieldType)) ∈ gw9 := gw9_in 554 (by decide +kernel) rfl
theorem w9_555 : (Jvm.Cond.methodLink "LorryArms" (220 : Nat) ({ cls := "LorryArms$Gate", name := "copyFrom", desc := "(LLorryArms$Gate;)V" } : Jvm.MethodName)) ∈ gw9 := gw9_in 555 (by decide +kernel) rfl
theorem w9_556 : (Jvm.Cond.instanceMethod ({ cls := "LorryArms$Gate", name := "copyFrom", desc := "(LLorryArms$Gate;)V" } : Jvm.MethodName)) ∈ gw9 := gw9_in 556 (by decide +kernel) rfl
theorem w9_557 : (Jvm.Cond.selects "LorryArms$Gate" ({ cls := "LorryArms$Gate", name := "copyFrom", desc := "(LLorryArms$Gate;)V" } : Jvm.MethodName) ({ cls := "LorryArms$Gate", name := "copyFrom", desc := "(LLorryArms$Gate;)V" } : Jvm.MethodName)) ∈ gw9 := gw9_in 557 (by decide +kernel) rfl
theorem w9_558 : (Jvm.Cond.code ({ cls := "LorryArms$Gate", name := "copyFrom", desc := "(LLorryArms$Gate;)V" } : Jvm.MethodName) prog_2_method_3_code (3 : Nat) (Option.none : Option Jvm.ClassFile.FieldType)) ∈ gw9 := gw9_in 558 (by decide +kernel) rfl
theorem w9_559 : (Jvm.Cond.methodLink "LorryArms$Gate" (32 : Nat) ({ cls := "java/lang/System", name := "arraycopy", desc := "(Ljava/lang/Object;ILjava/lang/Object;II)V" } : Jvm.MethodName)) ∈ gw9 := gw9_in 559 (by decide +kernel) rfl
theorem w9_560 : (Jvm.Cond.static ({ cls := "java/lang/System", name := "arraycopy", desc := "(Ljava/lang/Object;ILjava/lang/Object;II)V" } : Jvm.MethodName)) ∈ gw9 := gw9_in 560 (by decide +kernel) rfl
theorem w9_561 : (Jvm.Cond.native ({ cls := "java/lang/System", name := "arraycopy", desc := "(Ljava/lang/Object;ILjava/lang/Object;II)V" } : Jvm.MethodName)) ∈ gw9 := gw9_in 561 (by decide +kernel) rfl
theorem w9_562 : (Jvm.Cond.methodLink "LorryArms$Gate" (38 : Nat) ({ cls := "LorryArms$Lane", name := "copyFrom", desc := "(LLorryArms$Lane;)V" } : Jvm.MethodName)) ∈ gw9 := gw9_in 562 (by decide +kernel) rfl
theorem w9_563 : (Jvm.Cond.instanceMethod ({ cls := "LorryArms$Lane", name := "copyFrom", desc := "(LLorryArms$Lane;)V" } : Jvm.MethodName)) ∈ gw9 := gw9_in 563 (by decide +kernel) rfl
theorem w9_564 : (Jvm.Cond.selects "LorryArms$Lane" ({ cls := "LorryArms$Lane", name := "copyFrom", desc := "(LLorryArms$Lane;)V" } : Jvm.MethodName) ({ cls := "LorryArms$Lane", name := "copyFrom", desc := "(LLorryArms$Lane;)V" } : Jvm.MethodName)) ∈ gw9 := gw9_in 564 (by decide +kernel) rfl
theorem w9_565 : (Jvm.Cond.code ({ cls := "LorryArms$Lane", name := "copyFrom", desc := "(LLorryArms$Lane;)V" } : Jvm.MethodName) prog_3_method_3_code (3 : Nat) (Option.none : Option Jvm.ClassFile.FieldType)) ∈ gw9 := gw9_in 565 (by decide +kernel) rfl
theorem w9_566 : (Jvm.Cond.methodLink "LorryArmsLaw" (137 : Nat) ({ cls := "LorryArmsLaw", name := "arrive", desc := "(LLorryArms;IIZZ[J)I" } : Jvm.MethodName)) ∈ gw9 := gw9_in 566 (by decide +kernel) rfl
theorem w9_567 : (Jvm.Cond.static ({ cls := "LorryArmsLaw", name := "arrive", desc := "(LLorryArms;IIZZ[J)I" } : Jvm.MethodName)) ∈ gw9 := gw9_in 567 (by decide +kernel) rfl
theorem w9_568 : (Jvm.Cond.codeWith ({ cls := "LorryArmsLaw", name := "arrive", desc := "(LLorryArms;IIZZ[J)I" } : Jvm.MethodName) method_11_code (7 : Nat) (Option.some Jvm.ClassFile.FieldType.int) [((0 : Nat), (14 : Nat), (17 : Nat), (28 : Nat)), ((0 : Nat), (14 : Nat), (21 : Nat), (13 : Nat)), ((0 : Nat), (14 : Nat), (25 : Nat), (15 : Nat))]) ∈ gw9 := gw9_in 568 (by decide +kernel) rfl
theorem w9_569 : (Jvm.Cond.methodLink "LorryArmsLaw" (43 : Nat) ({ cls := "LorryArms", name := "arrive", desc := "(IIZZ)I" } : Jvm.MethodName)) ∈ gw9 := gw9_in 569 (by decide +kernel) rfl
theorem w9_570 : (Jvm.Cond.instanceMethod ({ cls := "LorryArms", name := "arrive", desc := "(IIZZ)I" } : Jvm.MethodName)) ∈ gw9 := gw9_in 570 (by decide +kernel) rfl
theorem w9_571 : (Jvm.Cond.selects "LorryArms" ({ cls := "LorryArms", name := "arrive", desc := "(IIZZ)I" } : Jvm.MethodName) ({ cls := "LorryArms", name := "arrive", desc := "(IIZZ)I" } : Jvm.MethodName)) ∈ gw9 := gw9_in 571 (by decide +kernel) rfl
theorem w9_572 : (Jvm.Cond.code ({ cls := "LorryArms", name := "arrive", desc := "(IIZZ)I" } : Jvm.MethodName) prog_1_method_27_code (5 : Nat) (Option.some Jvm.ClassFile.FieldType.int)) ∈ gw9 := gw9_in 572 (by decide +kernel) rfl
theorem w9_573 : (Jvm.Cond.methodLink "LorryArms" (192 : Nat) ({ cls := "LorryArms", name := "checkLength", desc := "(I)V" } : Jvm.MethodName)) ∈ gw9 := gw9_in 573 (by decide +kernel) rfl
theorem w9_574 : (Jvm.Cond.static ({ cls := "LorryArms", name := "checkLength", desc := "(I)V" } : Jvm.MethodName)) ∈ gw9 := gw9_in 574 (by decide +kernel) rfl
theorem w9_575 : (Jvm.Cond.code ({ cls := "LorryArms", name := "checkLength", desc := "(I)V" } : Jvm.MethodName) prog_1_method_25_code (1 : Nat) (Option.none : Option Jvm.ClassFile.FieldType)) ∈ gw9 := gw9_in 575 (by decide +kernel) rfl
theorem w9_578 : (Jvm.Cond.methodLink "LorryArmsLaw" (141 : Nat) ({ cls := "LorryArmsLaw", name := "loop", desc := "(LLorryArms;IZ[J)I" } : Jvm.MethodName)) ∈ gw9 := gw9_in 578 (by decide +kernel) rfl
theorem w9_579 : (Jvm.Cond.static ({ cls := "LorryArmsLaw", name := "loop", desc := "(LLorryArms;IZ[J)I" } : Jvm.MethodName)) ∈ gw9 := gw9_in 579 (by decide +kernel) rfl
theorem w9_580 : (Jvm.Cond.codeWith ({ cls := "LorryArmsLaw", name := "loop", desc := "(LLorryArms;IZ[J)I" } : Jvm.MethodName) method_12_code (5 : Nat) (Option.some Jvm.ClassFile.FieldType.int) [((0 : Nat), (10 : Nat), (13 : Nat), (28 : Nat))]) ∈ gw9 := gw9_in 580 (by decide +kernel) rfl
theorem w9_581 : (Jvm.Cond.methodLink "LorryArmsLaw" (47 : Nat) ({ cls := "LorryArms", name := "loop", desc := "(IZ)I" } : Jvm.MethodName)) ∈ gw9 := gw9_in 581 (by decide +kernel) rfl
theorem w9_582 : (Jvm.Cond.instanceMethod ({ cls := "LorryArms", name := "loop", desc := "(IZ)I" } : Jvm.MethodName)) ∈ gw9 := gw9_in 582 (by decide +kernel) rfl
theorem w9_583 : (Jvm.Cond.selects "LorryArms" ({ cls := "LorryArms", name := "loop", desc := "(IZ)I" } : Jvm.MethodName) ({ cls := "LorryArms", name := "loop", desc := "(IZ)I" } : Jvm.MethodName)) ∈ gw9 := gw9_in 583 (by decide +kernel) rfl
theorem w9_584 : (Jvm.Cond.code ({ cls := "LorryArms", name := "loop", desc := "(IZ)I" } : Jvm.MethodName) prog_1_method_28_code (3 : Nat) (Option.some Jvm.ClassFile.FieldType.int)) ∈ gw9 := gw9_in 584 (by decide +kernel) rfl
theorem w9_585 : (Jvm.Cond.methodLink "LorryArmsLaw" (145 : Nat) ({ cls := "LorryArmsLaw", name := "mend", desc := "(LLorryArms;I[J)I" } : Jvm.MethodName)) ∈ gw9 := gw9_in 585 (by decide +kernel) rfl
theorem w9_586 : (Jvm.Cond.static ({ cls := "LorryArmsLaw", name := "mend", desc := "(LLorryArms;I[J)I" } : Jvm.MethodName)) ∈ gw9 := gw9_in 586 (by decide +kernel) rfl
theorem w9_587 : (Jvm.Cond.codeWith ({ cls := "LorryArmsLaw", name := "mend", desc := "(LLorryArms;I[J)I" } : Jvm.MethodName) method_13_code (4 : Nat) (Option.some Jvm.ClassFile.FieldType.int) [((0 : Nat), (9 : Nat), (12 : Nat), (28 : Nat)), ((0 : Nat), (9 : Nat), (15 : Nat), (15 : Nat))]) ∈ gw9 := gw9_in 587 (by decide +kernel) rfl
theorem w9_588 : (Jvm.Cond.methodLink "LorryArmsLaw" (51 : Nat) ({ cls := "LorryArms", name := "mend", desc := "(I)I" } : Jvm.MethodName)) ∈ gw9 := gw9_in 588 (by decide +kernel) rfl
theorem w9_589 : (Jvm.Cond.instanceMethod ({ cls := "LorryArms", name := "mend", desc := "(I)I" } : Jvm.MethodName)) ∈ gw9 := gw9_in 589 (by decide +kernel) rfl
theorem w9_590 : (Jvm.Cond.selects "LorryArms" ({ cls := "LorryArms", name := "mend", desc := "(I)I" } : Jvm.MethodName) ({ cls := "LorryArms", name := "mend", desc := "(I)I" } : Jvm.MethodName)) ∈ gw9 := gw9_in 590 (by decide +kernel) rfl
theorem w9_591 : (Jvm.Cond.code ({ cls := "LorryArms", name := "mend", desc := "(I)I" } : Jvm.MethodName) prog_1_method_29_code (2 : Nat) (Option.some Jvm.ClassFile.FieldType.int)) ∈ gw9 := gw9_in 591 (by decide +kernel) rfl
theorem w9_592 : (Jvm.Cond.methodLink "LorryArms" (200 : Nat) ({ cls := "LorryArms$Lane", name := "canBeMended", desc := "()Z" } : Jvm.MethodName)) ∈ gw9 := gw9_in 592 (by decide +kernel) rfl
theorem w9_594 : (Jvm.Cond.methodLink "LorryArmsLaw" (148 : Nat) ({ cls := "LorryArmsLaw", name := "run", desc := "(LLorryArms;I[J)I" } : Jvm.MethodName)) ∈ gw9 := gw9_in 594 (by decide +kernel) rfl
theorem w9_595 : (Jvm.Cond.static ({ cls := "LorryArmsLaw", name := "run", desc := "(LLorryArms;I[J)I" } : Jvm.MethodName)) ∈ gw9 := gw9_in 595 (by decide +kernel) rfl
theorem w9_596 : (Jvm.Cond.codeWith ({ cls := "LorryArmsLaw", name := "run", desc := "(LLorryArms;I[J)I" } : Jvm.MethodName) method_14_code (4 : Nat) (Option.some Jvm.ClassFile.FieldType.int) [((0 : Nat), (9 : Nat), (12 : Nat), (13 : Nat))]) ∈ gw9 := gw9_in 596 (by decide +kernel) rfl
theorem w9_597 : (Jvm.Cond.methodLink "LorryArmsLaw" (54 : Nat) ({ cls := "LorryArms", name := "run", desc := "(I)I" } : Jvm.MethodName)) ∈ gw9 := gw9_in 597 (by decide +kernel) rfl
theorem w9_598 : (Jvm.Cond.instanceMethod ({ cls := "LorryArms", name := "run", desc := "(I)I" } : Jvm.MethodName)) ∈ gw9 := gw9_in 598 (by decide +kernel) rfl
theorem w9_599 : (Jvm.Cond.selects "LorryArms" ({ cls := "LorryArms", name := "run", desc := "(I)I" } : Jvm.MethodName) ({ cls := "LorryArms", name := "run", desc := "(I)I" } : Jvm.MethodName)) ∈ gw9 := gw9_in 599 (by decide +kernel) rfl
theorem w9_600 : (Jvm.Cond.code ({ cls := "LorryArms", name := "run", desc := "(I)I" } : Jvm.MethodName) prog_1_method_30_code (3 : Nat) (Option.some Jvm.ClassFile.FieldType.int)) ∈ gw9 := gw9_in 600 (by decide +kernel) rfl
theorem w9_602 : (Jvm.Cond.methodLink "LorryArmsLaw" (151 : Nat) ({ cls := "LorryArmsLaw", name := "set", desc := "(LLorryArms;II[J)I" } : Jvm.MethodName)) ∈ gw9 := gw9_in 602 (by decide +kernel) rfl
theorem w9_603 : (Jvm.Cond.static ({ cls := "LorryArmsLaw", name := "set", desc := "(LLorryArms;II[J)I" } : Jvm.MethodName)) ∈ gw9 := gw9_in 603 (by decide +kernel) rfl
theorem w9_604 : (Jvm.Cond.codeWith ({ cls := "LorryArmsLaw", name := "set", desc := "(LLorryArms;II[J)I" } : Jvm.MethodName) method_15_code (5 : Nat) (Option.some Jvm.ClassFile.FieldType.int) [((0 : Nat), (10 : Nat), (13 : Nat), (13 : Nat))]) ∈ gw9 := gw9_in 604 (by decide +kernel) rfl
theorem w9_605 : (Jvm.Cond.methodLink "LorryArmsLaw" (57 : Nat) ({ cls := "LorryArms", name := "set", desc := "(II)I" } : Jvm.MethodName)) ∈ gw9 := gw9_in 605 (by decide +kernel) rfl
theorem w9_606 : (Jvm.Cond.instanceMethod ({ cls := "LorryArms", name := "set", desc := "(II)I" } : Jvm.MethodName)) ∈ gw9 := gw9_in 606 (by decide +kernel) rfl
theorem w9_607 : (Jvm.Cond.selects "LorryArms" ({ cls := "LorryArms", name := "set", desc := "(II)I" } : Jvm.MethodName) ({ cls := "LorryArms", name := "set", desc := "(II)I" } : Jvm.MethodName)) ∈ gw9 := gw9_in 607 (by decide +kernel) rfl
theorem w9_608 : (Jvm.Cond.code ({ cls := "LorryArms", name := "set", desc := "(II)I" } : Jvm.MethodName) prog_1_method_31_code (4 : Nat) (Option.some Jvm.ClassFile.FieldType.int)) ∈ gw9 := gw9_in 608 (by decide +kernel) rfl
theorem w9_609 : (Jvm.Cond.methodLink "LorryArms" (210 : Nat) ({ cls := "LorryArms", name := "isSetting", desc := "(II)Z" } : Jvm.MethodName)) ∈ gw9 := gw9_in 609 (by decide +kernel) rfl
theorem w9_610 : (Jvm.Cond.static ({ cls := "LorryArms", name := "isSetting", desc := "(II)Z" } : Jvm.MethodName)) ∈ gw9 := gw9_in 610 (by decide +kernel) rfl
theorem w9_611 : (Jvm.Cond.code ({ cls := "LorryArms", name := "isSetting", desc := "(II)Z" } : Jvm.MethodName) prog_1_method_33_code (2 : Nat) (Option.some Jvm.ClassFile.FieldType.boolean)) ∈ gw9 := gw9_in 611 (by decide +kernel) rfl
theorem w9_613 : (Jvm.Cond.methodLink "LorryArms" (215 : Nat) ({ cls := "LorryArms$Gate", name := "changeSetting", desc := "(II)Z" } : Jvm.MethodName)) ∈ gw9 := gw9_in 613 (by decide +kernel) rfl
theorem w9_614 : (Jvm.Cond.instanceMethod ({ cls := "LorryArms$Gate", name := "changeSetting", desc := "(II)Z" } : Jvm.MethodName)) ∈ gw9 := gw9_in 614 (by decide +kernel) rfl
theorem w9_615 : (Jvm.Cond.selects "LorryArms$Gate" ({ cls := "LorryArms$Gate", name := "changeSetting", desc := "(II)Z" } : Jvm.MethodName) ({ cls := "LorryArms$Gate", name := "changeSetting", desc := "(II)Z" } : Jvm.MethodName)) ∈ gw9 := gw9_in 615 (by decide +kernel) rfl
theorem w9_616 : (Jvm.Cond.code ({ cls := "LorryArms$Gate", name := "changeSetting", desc := "(II)Z" } : Jvm.MethodName) prog_2_method_10_code (3 : Nat) (Option.some Jvm.ClassFile.FieldType.boolean)) ∈ gw9 := gw9_in 616 (by decide +kernel) rfl
theorem w9_618 : (Jvm.Cond.methodLink "LorryArmsLaw" (154 : Nat) ({ cls := "LorryArmsLaw", name := "undo", desc := "(LLorryArms;[J)I" } : Jvm.MethodName)) ∈ gw9 := gw9_in 618 (by decide +kernel) rfl
theorem w9_619 : (Jvm.Cond.static ({ cls := "LorryArmsLaw", name := "undo", desc := "(LLorryArms;[J)I" } : Jvm.MethodName)) ∈ gw9 := gw9_in 619 (by decide +kernel) rfl
theorem w9_620 : (Jvm.Cond.codeWith ({ cls := "LorryArmsLaw", name := "undo", desc := "(LLorryArms;[J)I" } : Jvm.MethodName) method_16_code (3 : Nat) (Option.some Jvm.ClassFile.FieldType.int) [((0 : Nat), (8 : Nat), (11 : Nat), (15 : Nat))]) ∈ gw9 := gw9_in 620 (by decide +kernel) rfl
theorem w9_621 : (Jvm.Cond.methodLink "LorryArmsLaw" (60 : Nat) ({ cls := "LorryArms", name := "undo", desc := "()I" } : Jvm.MethodName)) ∈ gw9 := gw9_in 621 (by decide +kernel) rfl
theorem w9_622 : (Jvm.Cond.instanceMethod ({ cls := "LorryArms", name := "undo", desc := "()I" } : Jvm.MethodName)) ∈ gw9 := gw9_in 622 (by decide +kernel) rfl
theorem w9_623 : (Jvm.Cond.selects "LorryArms" ({ cls := "LorryArms", name := "undo", desc := "()I" } : Jvm.MethodName) ({ cls := "LorryArms", name := "undo", desc := "()I" } : Jvm.MethodName)) ∈ gw9 := gw9_in 623 (by decide +kernel) rfl
theorem w9_624 : (Jvm.Cond.code ({ cls := "LorryArms", name := "undo", desc := "()I" } : Jvm.MethodName) prog_1_method_32_code (1 : Nat) (Option.some Jvm.ClassFile.FieldType.int)) ∈ gw9 := gw9_in 624 (by decide +kernel) rfl
theorem w9_626 : (Jvm.Cond.methodLink "LorryArmsLaw" (157 : Nat) ({ cls := "LorryArmsLaw", name := "emptyIn", desc := "(LLorryArms;I[J)I" } : Jvm.MethodName)) ∈ gw9 := gw9_in 626 (by decide +kernel) rfl
theorem w9_627 : (Jvm.Cond.static ({ cls := "LorryArmsLaw", name := "emptyIn", desc := "(LLorryArms;I[J)I" } : Jvm.MethodName)) ∈ gw9 := gw9_in 627 (by decide +kernel) rfl
theorem w9_628 : (Jvm.Cond.codeWith ({ cls := "LorryArmsLaw", name := "emptyIn", desc := "(LLorryArms;I[J)I" } : Jvm.MethodName) method_17_code (4 : Nat) (Option.some Jvm.ClassFile.FieldType.int) [((0 : Nat), (9 : Nat), (12 : Nat), (28 : Nat))]) ∈ gw9 := gw9_in 628 (by decide +kernel) rfl
theorem w9_629 : (Jvm.Cond.methodLink "LorryArmsLaw" (63 : Nat) ({ cls := "LorryArms", name := "emptyIn", desc := "(I)I" } : Jvm.MethodName)) ∈ gw9 := gw9_in 629 (by decide +kernel) rfl
theorem w9_630 : (Jvm.Cond.instanceMethod ({ cls := "LorryArms", name := "emptyIn", desc := "(I)I" } : Jvm.MethodName)) ∈ gw9 := gw9_in 630 (by decide +kernel) rfl
theorem w9_631 : (Jvm.Cond.selects "LorryArms" ({ cls := "LorryArms", name := "emptyIn", desc := "(I)I" } : Jvm.MethodName) ({ cls := "LorryArms", name := "emptyIn", desc := "(I)I" } : Jvm.MethodName)) ∈ gw9 := gw9_in 631 (by decide +kernel) rfl
theorem w9_632 : (Jvm.Cond.code ({ cls := "LorryArms", name := "emptyIn", desc := "(I)I" } : Jvm.MethodName) prog_1_method_36_code (4 : Nat) (Option.some Jvm.ClassFile.FieldType.int)) ∈ gw9 := gw9_in 632 (by decide +kernel) rfl
theorem w9_633 : (Jvm.Cond.methodLink "LorryArms" (224 : Nat) ({ cls := "LorryArms$Lane", name := "tick", desc := "([I)V" } : Jvm.MethodName)) ∈ gw9 := gw9_in 633 (by decide +kernel) rfl
theorem w9_634 : (Jvm.Cond.methodLink "LorryArmsLaw" (160 : Nat) ({ cls := "LorryArmsLaw", name := "throughIn", desc := "(LLorryArms;II[J)I" } : Jvm.MethodName)) ∈ gw9 := gw9_in 634 (by decide +kernel) rfl
theorem w9_635 : (Jvm.Cond.static ({ cls := "LorryArmsLaw", name := "throughIn", desc := "(LLorryArms;II[J)I" } : Jvm.MethodName)) ∈ gw9 := gw9_in 635 (by decide +kernel) rfl
theorem w9_636 : (Jvm.Cond.codeWith ({ cls := "LorryArmsLaw", name := "throughIn", desc := "(LLorryArms;II[J)I" } : Jvm.MethodName) method_18_code (5 : Nat) (Option.some Jvm.ClassFile.FieldType.int) [((0 : Nat), (10 : Nat), (13 : Nat), (28 : Nat))]) ∈ gw9 := gw9_in 636 (by decide +kernel) rfl
theorem w9_637 : (Jvm.Cond.methodLink "LorryArmsLaw" (66 : Nat) ({ cls := "LorryArms", name := "throughIn", desc := "(II)I" } : Jvm.MethodName)) ∈ gw9 := gw9_in 637 (by decide +kernel) rfl
theorem w9_638 : (Jvm.Cond.instanceMethod ({ cls := "LorryArms", name := "throughIn", desc := "(II)I" } : Jvm.MethodName)) ∈ gw9 := gw9_in 638 (by decide +kernel) rfl
theorem w9_639 : (Jvm.Cond.selects "LorryArms" ({ cls := "LorryArms", name := "throughIn", desc := "(II)I" } : Jvm.MethodName) ({ cls := "LorryArms", name := "throughIn", desc := "(II)I" } : Jvm.MethodName)) ∈ gw9 := gw9_in 639 (by decide +kernel) rfl
theorem w9_640 : (Jvm.Cond.code ({ cls := "LorryArms", name := "throughIn", desc := "(II)I" } : Jvm.MethodName) prog_1_method_37_code (3 : Nat) (Option.some Jvm.ClassFile.FieldType.int)) ∈ gw9 := gw9_in 640 (by decide +kernel) rfl
theorem w9_641 : (Jvm.Cond.methodLink "LorryArms" (228 : Nat) ({ cls := "LorryArms", name := "copyThroughIn", desc := "(II)I" } : Jvm.MethodName)) ∈ gw9 := gw9_in 641 (by decide +kernel) rfl
theorem w9_643 : (Jvm.Cond.instanceMethod ({ cls := "LorryArms", name := "copyThroughIn", desc := "(II)I" } : Jvm.MethodName)) ∈ gw9 := gw9_in 643 (by decide +kernel) rfl
theorem w9_644 : (Jvm.Cond.code ({ cls := "LorryArms", name := "copyThroughIn", desc := "(II)I" } : Jvm.MethodName) prog_1_method_41_code (6 : Nat) (Option.some Jvm.ClassFile.FieldType.int)) ∈ gw9 := gw9_in 644 (by decide +kernel) rfl
theorem w9_645 : (Jvm.Cond.methodLink "LorryArms" (242 : Nat) ({ cls := "LorryArms$Lane", name := "hasGoneThrough", desc := "(I)Z" } : Jvm.MethodName)) ∈ gw9 := gw9_in 645 (by decide +kernel) rfl
theorem w9_646 : (Jvm.Cond.instanceMethod ({ cls := "LorryArms$Lane", name := "hasGoneThrough", desc := "(I)Z" } : Jvm.MethodName)) ∈ gw9 := gw9_in 646 (by decide +kernel) rfl
theorem w9_647 : (Jvm.Cond.selects "LorryArms$Lane" ({ cls := "LorryArms$Lane", name := "hasGoneThrough", desc := "(I)Z" } : Jvm.MethodName) ({ cls := "LorryArms$Lane", name := "hasGoneThrough", desc := "(I)Z" } : Jvm.MethodName)) ∈ gw9 := gw9_in 647 (by decide +kernel) rfl
theorem w9_648 : (Jvm.Cond.code ({ cls := "LorryArms$Lane", name := "hasGoneThrough", desc := "(I)Z" } : Jvm.MethodName) prog_3_method_21_code (2 : Nat) (Option.some Jvm.ClassFile.FieldType.boolean)) ∈ gw9 := gw9_in 648 (by decide +kernel) rfl
theorem w9_649 : (Jvm.Cond.methodLink "LorryArmsLaw" (163 : Nat) ({ cls := "LorryArmsLaw", name := "bestLane", desc := "(LLorryArms;I[J)I" } : Jvm.MethodName)) ∈ gw9 := gw9_in 649 (by decide +kernel) rfl
theorem w9_650 : (Jvm.Cond.static ({ cls := "LorryArmsLaw", name := "bestLane", desc := "(LLorryArms;I[J)I" } : Jvm.MethodName)) ∈ gw9 := gw9_in 650 (by decide +kernel) rfl
theorem w9_651 : (Jvm.Cond.codeWith ({ cls := "LorryArmsLaw", name := "bestLane", desc := "(LLorryArms;I[J)I" } : Jvm.MethodName) method_19_code (4 : Nat) (Option.some Jvm.ClassFile.FieldType.int) [((0 : Nat), (9 : Nat), (12 : Nat), (13 : Nat))]) ∈ gw9 := gw9_in 651 (by decide +kernel) rfl
theorem w9_652 : (Jvm.Cond.methodLink "LorryArmsLaw" (69 : Nat) ({ cls := "LorryArms", name := "bestLane", desc := "(I)I" } : Jvm.MethodName)) ∈ gw9 := gw9_in 652 (by decide +kernel) rfl
theorem w9_653 : (Jvm.Cond.instanceMethod ({ cls := "LorryArms", name := "bestLane", desc := "(I)I" } : Jvm.MethodName)) ∈ gw9 := gw9_in 653 (by decide +kernel) rfl
theorem w9_654 : (Jvm.Cond.selects "LorryArms" ({ cls := "LorryArms", name := "bestLane", desc := "(I)I" } : Jvm.MethodName) ({ cls := "LorryArms", name := "bestLane", desc := "(I)I" } : Jvm.MethodName)) ∈ gw9 := gw9_in 654 (by decide +kernel) rfl
theorem w9_655 : (Jvm.Cond.code ({ cls := "LorryArms", name := "bestLane", desc := "(I)I" } : Jvm.MethodName) prog_1_method_38_code (6 : Nat) (Option.some Jvm.ClassFile.FieldType.int)) ∈ gw9 := gw9_in 655 (by decide +kernel) rfl
theorem w9_656 : (Jvm.Cond.methodLink "LorryArmsLaw" (166 : Nat) ({ cls := "LorryArmsLaw", name := "coming", desc := "(LLorryArms;II[J)I" } : Jvm.MethodName)) ∈ gw9 := gw9_in 656 (by decide +kernel) rfl
theorem w9_657 : (Jvm.Cond.static ({ cls := "LorryArmsLaw", name := "coming", desc := "(LLorryArms;II[J)I" } : Jvm.MethodName)) ∈ gw9 := gw9_in 657 (by decide +kernel) rfl
theorem w9_658 : (Jvm.Cond.codeWith ({ cls := "LorryArmsLaw", name := "coming", desc := "(LLorryArms;II[J)I" } : Jvm.MethodName) method_20_code (5 : Nat) (Option.some Jvm.ClassFile.FieldType.int) [((0 : Nat), (10 : Nat), (13 : Nat), (13 : Nat))]) ∈ gw9 := gw9_in 658 (by decide +kernel) rfl
theorem w9_659 : (Jvm.Cond.methodLink "LorryArmsLaw" (72 : Nat) ({ cls := "LorryArms", name := "coming", desc := "(II)I" } : Jvm.MethodName)) ∈ gw9 := gw9_in 659 (by decide +kernel) rfl
theorem w9_660 : (Jvm.Cond.instanceMethod ({ cls := "LorryArms", name := "coming", desc := "(II)I" } : Jvm.MethodName)) ∈ gw9 := gw9_in 660 (by decide +kernel) rfl
theorem w9_661 : (Jvm.Cond.selects "LorryArms" ({ cls := "LorryArms", name := "coming", desc := "(II)I" } : Jvm.MethodName) ({ cls := "LorryArms", name := "coming", desc := "(II)I" } : Jvm.MethodName)) ∈ gw9 := gw9_in 661 (by decide +kernel) rfl
theorem w9_662 : (Jvm.Cond.code ({ cls := "LorryArms", name := "coming", desc := "(II)I" } : Jvm.MethodName) prog_1_method_39_code (5 : Nat) (Option.some Jvm.ClassFile.FieldType.int)) ∈ gw9 := gw9_in 662 (by decide +kernel) rfl
theorem w9_664 : (Jvm.Cond.methodLink "LorryArms" (233 : Nat) ({ cls := "LorryArms$Gate", name := "armsUp", desc := "()I" } : Jvm.MethodName)) ∈ gw9 := gw9_in 664 (by decide +kernel) rfl
theorem w9_665 : (Jvm.Cond.instanceMethod ({ cls := "LorryArms$Gate", name := "armsUp", desc := "()I" } : Jvm.MethodName)) ∈ gw9 := gw9_in 665 (by decide +kernel) rfl
theorem w9_666 : (Jvm.Cond.selects "LorryArms$Gate" ({ cls := "LorryArms$Gate", name := "armsUp", desc := "()I" } : Jvm.MethodName) ({ cls := "LorryArms$Gate", name := "armsUp", desc := "()I" } : Jvm.MethodName)) ∈ gw9 := gw9_in 666 (by decide +kernel) rfl
theorem w9_667 : (Jvm.Cond.code ({ cls := "LorryArms$Gate", name := "armsUp", desc := "()I" } : Jvm.MethodName) prog_2_method_12_code (3 : Nat) (Option.some Jvm.ClassFile.FieldType.int)) ∈ gw9 := gw9_in 667 (by decide +kernel) rfl
theorem w9_668 : (Jvm.Cond.methodLink "LorryArmsLaw" (169 : Nat) ({ cls := "LorryArmsLaw", name := "hitsIn", desc := "(LLorryArms;I[J)I" } : Jvm.MethodName)) ∈ gw9 := gw9_in 668 (by decide +kernel) rfl
theorem w9_669 : (Jvm.Cond.static ({ cls := "LorryArmsLaw", name := "hitsIn", desc := "(LLorryArms;I[J)I" } : Jvm.MethodName)) ∈ gw9 := gw9_in 669 (by decide +kernel) rfl
theorem w9_670 : (Jvm.Cond.codeWith ({ cls := "LorryArmsLaw", name := "hitsIn", desc := "(LLorryArms;I[J)I" } : Jvm.MethodName) method_21_code (4 : Nat) (Option.some Jvm.ClassFile.FieldType.int) [((0 : Nat), (9 : Nat), (12 : Nat), (28 : Nat))]) ∈ gw9 := gw9_in 670 (by decide +kernel) rfl
theorem w9_671 : (Jvm.Cond.methodLink "LorryArmsLaw" (75 : Nat) ({ cls := "LorryArms", name := "hitsIn", desc := "(I)I" } : Jvm.MethodName)) ∈ gw9 := gw9_in 671 (by decide +kernel) rfl
theorem w9_672 : (Jvm.Cond.instanceMethod ({ cls := "LorryArms", name := "hitsIn", desc := "(I)I" } : Jvm.MethodName)) ∈ gw9 := gw9_in 672 (by decide +kernel) rfl
theorem w9_673 : (Jvm.Cond.selects "LorryArms" ({ cls := "LorryArms", name := "hitsIn", desc := "(I)I" } : Jvm.MethodName) ({ cls := "LorryArms", name := "hitsIn", desc := "(I)I" } : Jvm.MethodName)) ∈ gw9 := gw9_in 673 (by decide +kernel) rfl
theorem w9_674 : (Jvm.Cond.code ({ cls := "LorryArms", name := "hitsIn", desc := "(I)I" } : Jvm.MethodName) prog_1_method_40_code (5 : Nat) (Option.some Jvm.ClassFile.FieldType.int)) ∈ gw9 := gw9_in 674 (by decide +kernel) rfl
theorem w9_675 : (Jvm.Cond.methodLink "LorryArmsLaw" (174 : Nat) ({ cls := "LorryArmsLaw", name := "runScript", desc := "(LLorryArms;IJ[J)I" } : Jvm.MethodName)) ∈ gw9 := gw9_in 675 (by decide +kernel) rfl
theorem w9_676 : (Jvm.Cond.static ({ cls := "LorryArmsLaw", name := "runScript", desc := "(LLorryArms;IJ[J)I" } : Jvm.MethodName)) ∈ gw9 := gw9_in 676 (by decide +kernel) rfl
theorem w9_677 : (Jvm.Cond.codeWith ({ cls := "LorryArmsLaw", name := "runScript", desc := "(LLorryArms;IJ[J)I" } : Jvm.MethodName) method_22_code (6 : Nat) (Option.some Jvm.ClassFile.FieldType.int) [((0 : Nat), (11 : Nat), (14 : Nat), (13 : Nat))]) ∈ gw9 := gw9_in 677 (by decide +kernel) rfl
theorem w9_678 : (Jvm.Cond.methodLink "LorryArmsLaw" (78 : Nat) ({ cls := "LorryArms", name := "runScript", desc := "(IJ)I" } : Jvm.MethodName)) ∈ gw9 := gw9_in 678 (by decide +kernel) rfl
theorem w9_679 : (Jvm.Cond.instanceMethod ({ cls := "LorryArms", name := "runScript", desc := "(IJ)I" } : Jvm.MethodName)) ∈ gw9 := gw9_in 679 (by decide +kernel) rfl
theorem w9_680 : (Jvm.Cond.selects "LorryArms" ({ cls := "LorryArms", name := "runScript", desc := "(IJ)I" } : Jvm.MethodName) ({ cls := "LorryArms", name := "runScript", desc := "(IJ)I" } : Jvm.MethodName)) ∈ gw9 := gw9_in 680 (by decide +kernel) rfl
theorem w9_681 : (Jvm.Cond.code ({ cls := "LorryArms", name := "runScript", desc := "(IJ)I" } : Jvm.MethodName) prog_1_method_42_code (5 : Nat) (Option.some Jvm.ClassFile.FieldType.int)) ∈ gw9 := gw9_in 681 (by decide +kernel) rfl
theorem w9_683 : (Jvm.Cond.methodLink "LorryArms" (247 : Nat) ({ cls := "LorryArms", name := "withoutGroups", desc := "(JI)J" } : Jvm.MethodName)) ∈ gw9 := gw9_in 683 (by decide +kernel) rfl
theorem w9_684 : (Jvm.Cond.static ({ cls := "LorryArms", name := "withoutGroups", desc := "(JI)J" } : Jvm.MethodName)) ∈ gw9 := gw9_in 684 (by decide +kernel) rfl
theorem w9_685 : (Jvm.Cond.code ({ cls := "LorryArms", name := "withoutGroups", desc := "(JI)J" } : Jvm.MethodName) prog_1_method_44_code (6 : Nat) (Option.some Jvm.ClassFile.FieldType.long)) ∈ gw9 := gw9_in 685 (by decide +kernel) rfl
theorem w9_686 : (Jvm.Cond.constantLong "LorryArms" (253 : Nat) (100000 : Int64)) ∈ gw9 := gw9_in 686 (by decide +kernel) rfl
theorem w9_688 : (Jvm.Cond.methodLink "LorryArms" (255 : Nat) ({ cls := "LorryArms", name := "doGroup", desc := "(I)Z" } : Jvm.MethodName)) ∈ gw9 := gw9_in 688 (by decide +kernel) rfl
theorem w9_690 : (Jvm.Cond.instanceMethod ({ cls := "LorryArms", name := "doGroup", desc := "(I)Z" } : Jvm.MethodName)) ∈ gw9 := gw9_in 690 (by decide +kernel) rfl
theorem w9_691 : (Jvm.Cond.code ({ cls := "LorryArms", name := "doGroup", desc := "(I)Z" } : Jvm.MethodName) prog_1_method_45_code (6 : Nat) (Option.some Jvm.ClassFile.FieldType.boolean)) ∈ gw9 := gw9_in 691 (by decide +kernel) rfl
theorem w9_692 : (Jvm.Cond.methodLink "LorryArmsLaw" (178 : Nat) ({ cls := "LorryArmsLaw", name := "simulate", desc := "(LLorryArms;JI[J)I" } : Jvm.MethodName)) ∈ gw9 := gw9_in 692 (by decide +kernel) rfl
theorem w9_693 : (Jvm.Cond.static ({ cls := "LorryArmsLaw", name := "simulate", desc := "(LLorryArms;JI[J)I" } : Jvm.MethodName)) ∈ gw9 := gw9_in 693 (by decide +kernel) rfl
theorem w9_694 : (Jvm.Cond.codeWith ({ cls := "LorryArmsLaw", name := "simulate", desc := "(LLorryArms;JI[J)I" } : Jvm.MethodName) method_23_code (6 : Nat) (Option.some Jvm.ClassFile.FieldType.int) [((0 : Nat), (11 : Nat), (14 : Nat), (13 : Nat))]) ∈ gw9 := gw9_in 694 (by decide +kernel) rfl
theorem w9_695 : (Jvm.Cond.methodLink "LorryArmsLaw" (82 : Nat) ({ cls := "LorryArms", name := "simulate", desc := "(JI)I" } : Jvm.MethodName)) ∈ gw9 := gw9_in 695 (by decide +kernel) rfl
theorem w9_696 : (Jvm.Cond.instanceMethod ({ cls := "LorryArms", name := "simulate", desc := "(JI)I" } : Jvm.MethodName)) ∈ gw9 := gw9_in 696 (by decide +kernel) rfl
theorem w9_697 : (Jvm.Cond.selects "LorryArms" ({ cls := "LorryArms", name := "simulate", desc := "(JI)I" } : Jvm.MethodName) ({ cls := "LorryArms", name := "simulate", desc := "(JI)I" } : Jvm.MethodName)) ∈ gw9 := gw9_in 697 (by decide +kernel) rfl
theorem w9_698 : (Jvm.Cond.code ({ cls := "LorryArms", name := "simulate", desc := "(JI)I" } : Jvm.MethodName) prog_1_method_43_code (9 : Nat) (Option.some Jvm.ClassFile.FieldType.int)) ∈ gw9 := gw9_in 698 (by decide +kernel) rfl
theorem w9_700 : (Jvm.Cond.constantLong "LorryArms" (260 : Nat) (6364136223846793005 : Int64)) ∈ gw9 := gw9_in 700 (by decide +kernel) rfl
theorem w9_701 : (Jvm.Cond.constantLong "LorryArms" (262 : Nat) (1442695040888963407 : Int64)) ∈ gw9 := gw9_in 701 (by decide +kernel) rfl
theorem w9_702 : (Jvm.Cond.methodLink "LorryArms" (264 : Nat) ({ cls := "LorryArms", name := "doTurn", desc := "(I)V" } : Jvm.MethodName)) ∈ gw9 := gw9_in 702 (by decide +kernel) rfl
theorem w9_704 : (Jvm.Cond.instanceMethod ({ cls := "LorryArms", name := "doTurn", desc := "(I)V" } : Jvm.MethodName)) ∈ gw9 := gw9_in 704 (by decide +kernel) rfl
theorem w9_705 : (Jvm.Cond.code ({ cls := "LorryArms", name := "doTurn", desc := "(I)V" } : Jvm.MethodName) prog_1_method_46_code (3 : Nat) (Option.none : Option Jvm.ClassFile.FieldType)) ∈ gw9 := gw9_in 705 (by decide +kernel) rfl
theorem w9_706 : (Jvm.Cond.methodLink "LorryArms" (267 : Nat) ({ cls := "java/lang/Math", name := "min", desc := "(II)I" } : Jvm.MethodName)) ∈ gw9 := gw9_in 706 (by decide +kernel) rfl
theorem w9_707 : (Jvm.Cond.methodLink "LorryArmsLaw" (182 : Nat) ({ cls := "LorryArmsLaw", name := "save", desc := "(LLorryArms;I[J)I" } : Jvm.MethodName)) ∈ gw9 := gw9_in 707 (by decide +kernel) rfl
theorem w9_708 : (Jvm.Cond.static ({ cls := "LorryArmsLaw", name := "save", desc := "(LLorryArms;I[J)I" } : Jvm.MethodName)) ∈ gw9 := gw9_in 708 (by decide +kernel) rfl
theorem w9_709 : (Jvm.Cond.codeWith ({ cls := "LorryArmsLaw", name := "save", desc := "(LLorryArms;I[J)I" } : Jvm.MethodName) method_24_code (4 : Nat) (Option.some Jvm.ClassFile.FieldType.int) [((0 : Nat), (9 : Nat), (12 : Nat), (28 : Nat))]) ∈ gw9 := gw9_in 709 (by decide +kernel) rfl
theorem w9_710 : (Jvm.Cond.methodLink "LorryArmsLaw" (86 : Nat) ({ cls := "LorryArms", name := "save", desc := "(I)I" } : Jvm.MethodName)) ∈ gw9 := gw9_in 710 (by decide +kernel) rfl
theorem w9_711 : (Jvm.Cond.instanceMethod ({ cls := "LorryArms", name := "save", desc := "(I)I" } : Jvm.MethodName)) ∈ gw9 := gw9_in 711 (by decide +kernel) rfl
theorem w9_712 : (Jvm.Cond.selects "LorryArms" ({ cls := "LorryArms", name := "save", desc := "(I)I" } : Jvm.MethodName) ({ cls := "LorryArms", name := "save", desc := "(I)I" } : Jvm.MethodName)) ∈ gw9 := gw9_in 712 (by decide +kernel) rfl
theorem w9_713 : (Jvm.Cond.code ({ cls := "LorryArms", name := "save", desc := "(I)I" } : Jvm.MethodName) prog_1_method_47_code (2 : Nat) (Option.some Jvm.ClassFile.FieldType.int)) ∈ gw9 := gw9_in 713 (by decide +kernel) rfl
theorem w9_714 : (Jvm.Cond.methodLink "LorryArms" (272 : Nat) ({ cls := "LorryArms", name := "checkSlot", desc := "(I)V" } : Jvm.MethodName)) ∈ gw9 := gw9_in 714 (by decide +kernel) rfl
theorem w9_715 : (Jvm.Cond.static ({ cls := "LorryArms", name := "checkSlot", desc := "(I)V" } : Jvm.MethodName)) ∈ gw9 := gw9_in 715 (by decide +kernel) rfl
theorem w9_716 : (Jvm.Cond.code ({ cls := "LorryArms", name := "checkSlot", desc := "(I)V" } : Jvm.MethodName) prog_1_method_49_code (1 : Nat) (Option.none : Option Jvm.ClassFile.FieldType)) ∈ gw9 := gw9_in 716 (by decide +kernel) rfl
theorem w9_718 : (Jvm.Cond.methodLink "LorryArmsLaw" (185 : Nat) ({ cls := "LorryArmsLaw", name := "restore", desc := "(LLorryArms;I[J)I" } : Jvm.MethodName)) ∈ gw9 := gw9_in 718 (by decide +kernel) rfl
theorem w9_719 : (Jvm.Cond.static ({ cls := "LorryArmsLaw", name := "restore", desc := "(LLorryArms;I[J)I" } : Jvm.MethodName)) ∈ gw9 := gw9_in 719 (by decide +kernel) rfl
theorem w9_720 : (Jvm.Cond.codeWith ({ cls := "LorryArmsLaw", name := "restore", desc := "(LLorryArms;I[J)I" } : Jvm.MethodName) method_25_code (4 : Nat) (Option.some Jvm.ClassFile.FieldType.int) [((0 : Nat), (9 : Nat), (12 : Nat), (28 : Nat)), ((0 : Nat), (9 : Nat), (15 : Nat), (15 : Nat))]) ∈ gw9 := gw9_in 720 (by decide +kernel) rfl
theorem w9_721 : (Jvm.Cond.methodLink "LorryArmsLaw" (89 : Nat) ({ cls := "LorryArms", name := "restore", desc := "(I)I" } : Jvm.MethodName)) ∈ gw9 := gw9_in 721 (by decide +kernel) rfl
theorem w9_722 : (Jvm.Cond.instanceMethod ({ cls := "LorryArms", name := "restore", desc := "(I)I" } : Jvm.MethodName)) ∈ gw9 := gw9_in 722 (by decide +kernel) rfl
theorem w9_723 : (Jvm.Cond.selects "LorryArms" ({ cls := "LorryArms", name := "restore", desc := "(I)I" } : Jvm.MethodName) ({ cls := "LorryArms", name := "restore", desc := "(I)I" } : Jvm.MethodName)) ∈ gw9 := gw9_in 723 (by decide +kernel) rfl
theorem w9_724 : (Jvm.Cond.code ({ cls := "LorryArms", name := "restore", desc := "(I)I" } : Jvm.MethodName) prog_1_method_48_code (2 : Nat) (Option.some Jvm.ClassFile.FieldType.int)) ∈ gw9 := gw9_in 724 (by decide +kernel) rfl
theorem w9_732 : (Jvm.Cond.methodLink "LorryArmsModel" (32 : Nat) ({ cls := "LorryArmsModel", name := "clear", desc := "([I)V" } : Jvm.MethodName)) ∈ gw9 := gw9_in 732 (by decide +kernel) rfl
theorem w9_733 : (Jvm.Cond.static ({ cls := "LorryArmsModel", name := "clear", desc := "([I)V" } : Jvm.MethodName)) ∈ gw9 := gw9_in 733 (by decide +kernel) rfl
theorem w9_734 : (Jvm.Cond.code ({ cls := "LorryArmsModel", name := "clear", desc := "([I)V" } : Jvm.MethodName) prog_5_method_6_code (2 : Nat) (Option.none : Option Jvm.ClassFile.FieldType)) ∈ gw9 := gw9_in 734 (by decide +kernel) rfl
theorem w9_735 : (Jvm.Cond.fieldLink "LorryArmsModel" (36 : Nat) "LorryArmsModel" "refusal" "I") ∈ gw9 := gw9_in 735 (by decide +kernel) rfl
theorem w9_736 : (Jvm.Cond.fieldLink "LorryArmsModel" (7 : Nat) "LorryArmsModel" "text" "[I") ∈ gw9 := gw9_in 736 (by decide +kernel) rfl
theorem w9_737 : (Jvm.Cond.fieldLink "LorryArmsModel" (127 : Nat) "LorryArmsModel" "size" "I") ∈ gw9 := gw9_in 737 (by decide +kernel) rfl
theorem w9_738 : (Jvm.Cond.fieldLink "LorryArmsModel" (13 : Nat) "LorryArmsModel" "now" "[I") ∈ gw9 := gw9_in 738 (by decide +kernel) rfl
theorem w9_739 : (Jvm.Cond.fieldLink "LorryArmsModel" (16 : Nat) "LorryArmsModel" "trial" "[I") ∈ gw9 := gw9_in 739 (by decide +kernel) rfl
theorem w9_740 : (Jvm.Cond.fieldLink "LorryArmsModel" (19 : Nat) "LorryArmsModel" "diary" "[I") ∈ gw9 := gw9_in 740 (by decide +kernel) rfl
theorem w9_741 : (Jvm.Cond.fieldLink "LorryArmsModel" (191 : Nat) "LorryArmsModel" "acts" "I") ∈ gw9 := gw9_in 741 (by decide +kernel) rfl
theorem w9_742 : (Jvm.Cond.fieldLink "LorryArmsModel" (22 : Nat) "LorryArmsModel" "kept" "[I") ∈ gw9 := gw9_in 742 (by decide +kernel) rfl
theorem w9_743 : (Jvm.Cond.fieldLink "LorryArmsModel" (25 : Nat) "LorryArmsModel" "isKept" "[Z") ∈ gw9 := gw9_in 743 (by decide +kernel) rfl
theorem w9_744 : (Jvm.Cond.fieldLink "LorryArmsModel" (29 : Nat) "LorryArmsModel" "moved" "[Z") ∈ gw9 := gw9_in 744 (by decide +kernel) rfl
theorem w9_745 : (Jvm.Cond.fieldLink "LorryArmsModel" (98 : Nat) "LorryArmsModel" "ups" "I") ∈ gw9 := gw9_in 745 (by decide +kernel) rfl
theorem w9_746 : (Jvm.Cond.fieldLink "LorryArmsModel" (133 : Nat) "LorryArmsModel" "spot" "I") ∈ gw9 := gw9_in 746 (by decide +kernel) rfl
theorem w9_747 : (Jvm.Cond.fieldLink "LorryArmsModel" (142 : Nat) "LorryArmsModel" "out" "I") ∈ gw9 := gw9_in 747 (by decide +kernel) rfl
theorem w9_775 : (Jvm.Cond.methodLink "LorryArmsLaw" (102 : Nat) ({ cls := "LorryArmsModel", name := "thrown", desc := "()I" } : Jvm.MethodName)) ∈ gw9 := gw9_in 775 (by decide +kernel) rfl
theorem w9_776 : (Jvm.Cond.instanceMethod ({ cls := "LorryArmsModel", name := "thrown", desc := "()I" } : Jvm.MethodName)) ∈ gw9 := gw9_in 776 (by decide +kernel) rfl
theorem w9_777 : (Jvm.Cond.selects "LorryArmsModel" ({ cls := "LorryArmsModel", name := "thrown", desc := "()I" } : Jvm.MethodName) ({ cls := "LorryArmsModel", name := "thrown", desc := "()I" } : Jvm.MethodName)) ∈ gw9 := gw9_in 777 (by decide +kernel) rfl
theorem w9_778 : (Jvm.Cond.code ({ cls := "LorryArmsModel", name := "thrown", desc := "()I" } : Jvm.MethodName) prog_5_method_2_code (1 : Nat) (Option.some Jvm.ClassFile.FieldType.int)) ∈ gw9 := gw9_in 778 (by decide +kernel) rfl
theorem w9_779 : (Jvm.Cond.methodLink "LorryArmsLaw" (101 : Nat) ({ cls := "LorryArmsModel", name := "append", desc := "(I)I" } : Jvm.MethodName)) ∈ gw9 := gw9_in 779 (by decide +kernel) rfl
theorem w9_780 : (Jvm.Cond.instanceMethod ({ cls := "LorryArmsModel", name := "append", desc := "(I)I" } : Jvm.MethodName)) ∈ gw9 := gw9_in 780 (by decide +kernel) rfl
theorem w9_781 : (Jvm.Cond.selects "LorryArmsModel" ({ cls := "LorryArmsModel", name := "append", desc := "(I)I" } : Jvm.MethodName) ({ cls := "LorryArmsModel", name := "append", desc := "(I)I" } : Jvm.MethodName)) ∈ gw9 := gw9_in 781 (by decide +kernel) rfl
theorem w9_782 : (Jvm.Cond.code ({ cls := "LorryArmsModel", name := "append", desc := "(I)I" } : Jvm.MethodName) prog_5_method_36_code (2 : Nat) (Option.some Jvm.ClassFile.FieldType.int)) ∈ gw9 := gw9_in 782 (by decide +kernel) rfl
theorem w9_783 : (Jvm.Cond.constantLong "LorryArmsModel" (125 : Nat) (255 : Int64)) ∈ gw9 := gw9_in 783 (by decide +kernel) rfl
theorem w9_784 : (Jvm.Cond.methodLink "LorryArmsModel" (40 : Nat) ({ cls := "LorryArmsModel", name := "in", desc := "(JJJ)Z" } : Jvm.MethodName)) ∈ gw9 := gw9_in 784 (by decide +kernel) rfl
theorem w9_785 : (Jvm.Cond.static ({ cls := "LorryArmsModel", name := "in", desc := "(JJJ)Z" } : Jvm.MethodName)) ∈ gw9 := gw9_in 785 (by decide +kernel) rfl
theorem w9_786 : (Jvm.Cond.code ({ cls := "LorryArmsModel", name := "in", desc := "(JJJ)Z" } : Jvm.MethodName) prog_5_method_4_code (6 : Nat) (Option.some Jvm.ClassFile.FieldType.boolean)) ∈ gw9 := gw9_in 786 (by decide +kernel) rfl
theorem w9_787 : (Jvm.Cond.methodLink "LorryArmsModel" (130 : Nat) ({ cls := "LorryArmsModel", name := "refused", desc := "(I)Z" } : Jvm.MethodName)) ∈ gw9 := gw9_in 787 (by decide +kernel) rfl
theorem w9_789 : (Jvm.Cond.instanceMethod ({ cls := "LorryArmsModel", name := "refused", desc := "(I)Z" } : Jvm.MethodName)) ∈ gw9 := gw9_in 789 (by decide +kernel) rfl
theorem w9_790 : (Jvm.Cond.code ({ cls := "LorryArmsModel", name := "refused", desc := "(I)Z" } : Jvm.MethodName) prog_5_method_3_code (2 : Nat) (Option.some Jvm.ClassFile.FieldType.boolean)) ∈ gw9 := gw9_in 790 (by decide +kernel) rfl
theorem w9_791 : (Jvm.Cond.methodLink "LorryArmsLaw" (108 : Nat) ({ cls := "LorryArmsModel", name := "clearText", desc := "()I" } : Jvm.MethodName)) ∈ gw9 := gw9_in 791 (by decide +kernel) rfl
theorem w9_792 : (Jvm.Cond.instanceMethod ({ cls := "LorryArmsModel", name := "clearText", desc := "()I" } : Jvm.MethodName)) ∈ gw9 := gw9_in 792 (by decide +kernel) rfl
theorem w9_793 : (Jvm.Cond.selects "LorryArmsModel" ({ cls := "LorryArmsModel", name := "clearText", desc := "()I" } : Jvm.MethodName) ({ cls := "LorryArmsModel", name := "clearText", desc := "()I" } : Jvm.MethodName)) ∈ gw9 := gw9_in 793 (by decide +kernel) rfl
theorem w9_794 : (Jvm.Cond.code ({ cls := "LorryArmsModel", name := "clearText", desc := "()I" } : Jvm.MethodName) prog_5_method_37_code (2 : Nat) (Option.some Jvm.ClassFile.FieldType.int)) ∈ gw9 := gw9_in 794 (by decide +kernel) rfl
theorem w9_795 : (Jvm.Cond.methodLink "LorryArmsLaw" (112 : Nat) ({ cls := "LorryArmsModel", name := "errorPosition", desc := "()I" } : Jvm.MethodName)) ∈ gw9 := gw9_in 795 (by decide +kernel) rfl
theorem w9_796 : (Jvm.Cond.instanceMethod ({ cls := "LorryArmsModel", name := "errorPosition", desc := "()I" } : Jvm.MethodName)) ∈ gw9 := gw9_in 796 (by decide +kernel) rfl
theorem w9_797 : (Jvm.Cond.selects "LorryArmsModel" ({ cls := "LorryArmsModel", name := "errorPosition", desc := "()I" } : Jvm.MethodName) ({ cls := "LorryArmsModel", name := "errorPosition", desc := "()I" } : Jvm.MethodName)) ∈ gw9 := gw9_in 797 (by decide +kernel) rfl
theorem w9_798 : (Jvm.Cond.code ({ cls := "LorryArmsModel", name := "errorPosition", desc := "()I" } : Jvm.MethodName) prog_5_method_44_code (1 : Nat) (Option.some Jvm.ClassFile.FieldType.int)) ∈ gw9 := gw9_in 798 (by decide +kernel) rfl
theorem w9_799 : (Jvm.Cond.methodLink "LorryArmsModel" (184 : Nat) ({ cls := "LorryArmsModel", name := "readText", desc := "([I)I" } : Jvm.MethodName)) ∈ gw9 := gw9_in 799 (by decide +kernel) rfl
theorem w9_801 : (Jvm.Cond.instanceMethod ({ cls := "LorryArmsModel", name := "readText", desc := "([I)I" } : Jvm.MethodName)) ∈ gw9 := gw9_in 801 (by decide +kernel) rfl
theorem w9_802 : (Jvm.Cond.code ({ cls := "LorryArmsModel", name := "readText", desc := "([I)I" } : Jvm.MethodName) prog_5_method_43_code (2 : Nat) (Option.some Jvm.ClassFile.FieldType.int)) ∈ gw9 := gw9_in 802 (by decide +kernel) rfl
theorem w9_803 : (Jvm.Cond.methodLink "LorryArmsModel" (136 : Nat) ({ cls := "LorryArmsModel", name := "at", desc := "(I)I" } : Jvm.MethodName)) ∈ gw9 := gw9_in 803 (by decide +kernel) rfl
theorem w9_805 : (Jvm.Cond.instanceMethod ({ cls := "LorryArmsModel", name := "at", desc := "(I)I" } : Jvm.MethodName)) ∈ gw9 := gw9_in 805 (by decide +kernel) rfl
theorem w9_806 : (Jvm.Cond.code ({ cls := "LorryArmsModel", name := "at", desc := "(I)I" } : Jvm.MethodName) prog_5_method_38_code (2 : Nat) (Option.some Jvm.ClassFile.FieldType.int)) ∈ gw9 := gw9_in 806 (by decide +kernel) rfl
theorem w9_807 : (Jvm.Cond.methodLink "LorryArmsModel" (180 : Nat) ({ cls := "LorryArmsModel", name := "readCommand", desc := "([I)Z" } : Jvm.MethodName)) ∈ gw9 := gw9_in 807 (by decide +kernel) rfl
theorem w9_809 : (Jvm.Cond.instanceMethod ({ cls := "LorryArmsModel", name := "readCommand", desc := "([I)Z" } : Jvm.MethodName)) ∈ gw9 := gw9_in 809 (by decide +kernel) rfl
theorem w9_810 : (Jvm.Cond.code ({ cls := "LorryArmsModel", name := "readCommand", desc := "([I)Z" } : Jvm.MethodName) prog_5_method_42_code (7 : Nat) (Option.some Jvm.ClassFile.FieldType.boolean)) ∈ gw9 := gw9_in 810 (by decide +kernel) rfl
theorem w9_811 : (Jvm.Cond.methodLink "LorryArmsModel" (145 : Nat) ({ cls := "LorryArmsModel", name := "laneOn", desc := "([I)I" } : Jvm.MethodName)) ∈ gw9 := gw9_in 811 (by decide +kernel) rfl
theorem w9_812 : (Jvm.Cond.static ({ cls := "LorryArmsModel", name := "laneOn", desc := "([I)I" } : Jvm.MethodName)) ∈ gw9 := gw9_in 812 (by decide +kernel) rfl
theorem w9_813 : (Jvm.Cond.code ({ cls := "LorryArmsModel", name := "laneOn", desc := "([I)I" } : Jvm.MethodName) prog_5_method_27_code (3 : Nat) (Option.some Jvm.ClassFile.FieldType.int)) ∈ gw9 := gw9_in 813 (by decide +kernel) rfl
theorem w9_814 : (Jvm.Cond.methodLink "LorryArmsModel" (67 : Nat) ({ cls := "LorryArmsModel", name := "lay", desc := "([IIII)V" } : Jvm.MethodName)) ∈ gw9 := gw9_in 814 (by decide +kernel) rfl
theorem w9_815 : (Jvm.Cond.static ({ cls := "LorryArmsModel", name := "lay", desc := "([IIII)V" } : Jvm.MethodName)) ∈ gw9 := gw9_in 815 (by decide +kernel) rfl
theorem w9_816 : (Jvm.Cond.code ({ cls := "LorryArmsModel", name := "lay", desc := "([IIII)V" } : Jvm.MethodName) prog_5_method_10_code (4 : Nat) (Option.none : Option Jvm.ClassFile.FieldType)) ∈ gw9 := gw9_in 816 (by decide +kernel) rfl
theorem w9_817 : (Jvm.Cond.methodLink "LorryArmsModel" (149 : Nat) ({ cls := "LorryArmsModel", name := "done", desc := "(Z)Z" } : Jvm.MethodName)) ∈ gw9 := gw9_in 817 (by decide +kernel) rfl
theorem w9_819 : (Jvm.Cond.instanceMethod ({ cls := "LorryArmsModel", name := "done", desc := "(Z)Z" } : Jvm.MethodName)) ∈ gw9 := gw9_in 819 (by decide +kernel) rfl
theorem w9_820 : (Jvm.Cond.code ({ cls := "LorryArmsModel", name := "done", desc := "(Z)Z" } : Jvm.MethodName) prog_5_method_41_code (2 : Nat) (Option.some Jvm.ClassFile.FieldType.boolean)) ∈ gw9 := gw9_in 820 (by decide +kernel) rfl
theorem w9_821 : (Jvm.Cond.methodLink "LorryArmsModel" (153 : Nat) ({ cls := "LorryArmsModel", name := "figures", desc := "(IIII)I" } : Jvm.MethodName)) ∈ gw9 := gw9_in 821 (by decide +kernel) rfl
theorem w9_823 : (Jvm.Cond.instanceMethod ({ cls := "LorryArmsModel", name := "figures", desc := "(IIII)I" } : Jvm.MethodName)) ∈ gw9 := gw9_in 823 (by decide +kernel) rfl
theorem w9_824 : (Jvm.Cond.code ({ cls := "LorryArmsModel", name := "figures", desc := "(IIII)I" } : Jvm.MethodName) prog_5_method_39_code (9 : Nat) (Option.some Jvm.ClassFile.FieldType.int)) ∈ gw9 := gw9_in 824 (by decide +kernel) rfl
theorem w9_825 : (Jvm.Cond.constantLong "LorryArmsModel" (140 : Nat) (9 : Int64)) ∈ gw9 := gw9_in 825 (by decide +kernel) rfl
theorem w9_826 : (Jvm.Cond.methodLink "LorryArmsModel" (157 : Nat) ({ cls := "LorryArmsModel", name := "sign", desc := "(I)Z" } : Jvm.MethodName)) ∈ gw9 := gw9_in 826 (by decide +kernel) rfl
theorem w9_828 : (Jvm.Cond.instanceMethod ({ cls := "LorryArmsModel", name := "sign", desc := "(I)Z" } : Jvm.MethodName)) ∈ gw9 := gw9_in 828 (by decide +kernel) rfl
theorem w9_829 : (Jvm.Cond.code ({ cls := "LorryArmsModel", name := "sign", desc := "(I)Z" } : Jvm.MethodName) prog_5_method_40_code (3 : Nat) (Option.some Jvm.ClassFile.FieldType.boolean)) ∈ gw9 := gw9_in 829 (by decide +kernel) rfl
theorem w9_830 : (Jvm.Cond.methodLink "LorryArmsModel" (160 : Nat) ({ cls := "LorryArmsModel", name := "canArrive", desc := "([III)Z" } : Jvm.MethodName)) ∈ gw9 := gw9_in 830 (by decide +kernel) rfl
theorem w9_831 : (Jvm.Cond.static ({ cls := "LorryArmsModel", name := "canArrive", desc := "([III)Z" } : Jvm.MethodName)) ∈ gw9 := gw9_in 831 (by decide +kernel) rfl
theorem w9_832 : (Jvm.Cond.code ({ cls := "LorryArmsModel", name := "canArrive", desc := "([III)Z" } : Jvm.MethodName) prog_5_method_29_code (3 : Nat) (Option.some Jvm.ClassFile.FieldType.boolean)) ∈ gw9 := gw9_in 832 (by decide +kernel) rfl
theorem w9_833 : (Jvm.Cond.methodLink "LorryArmsModel" (44 : Nat) ({ cls := "LorryArmsModel", name := "isLane", desc := "([II)Z" } : Jvm.MethodName)) ∈ gw9 := gw9_in 833 (by decide +kernel) rfl
theorem w9_834 : (Jvm.Cond.static ({ cls := "LorryArmsModel", name := "isLane", desc := "([II)Z" } : Jvm.MethodName)) ∈ gw9 := gw9_in 834 (by decide +kernel) rfl
theorem w9_835 : (Jvm.Cond.code ({ cls := "LorryArmsModel", name := "isLane", desc := "([II)Z" } : Jvm.MethodName) prog_5_method_7_code (2 : Nat) (Option.some Jvm.ClassFile.FieldType.boolean)) ∈ gw9 := gw9_in 835 (by decide +kernel) rfl
theorem w9_836 : (Jvm.Cond.methodLink "LorryArmsModel" (114 : Nat) ({ cls := "LorryArmsModel", name := "isLength", desc := "(I)Z" } : Jvm.MethodName)) ∈ gw9 := gw9_in 836 (by decide +kernel) rfl
theorem w9_837 : (Jvm.Cond.static ({ cls := "LorryArmsModel", name := "isLength", desc := "(I)Z" } : Jvm.MethodName)) ∈ gw9 := gw9_in 837 (by decide +kernel) rfl
theorem w9_838 : (Jvm.Cond.code ({ cls := "LorryArmsModel", name := "isLength", desc := "(I)Z" } : Jvm.MethodName) prog_5_method_28_code (1 : Nat) (Option.some Jvm.ClassFile.FieldType.boolean)) ∈ gw9 := gw9_in 838 (by decide +kernel) rfl
theorem w9_839 : (Jvm.Cond.constantLong "LorryArmsModel" (110 : Nat) (2 : Int64)) ∈ gw9 := gw9_in 839 (by decide +kernel) rfl
theorem w9_840 : (Jvm.Cond.constantLong "LorryArmsModel" (112 : Nat) (12 : Int64)) ∈ gw9 := gw9_in 840 (by decide +kernel) rfl
theorem w9_841 : (Jvm.Cond.methodLink "LorryArmsModel" (48 : Nat) ({ cls := "LorryArmsModel", name := "of", desc := "([III)I" } : Jvm.MethodName)) ∈ gw9 := gw9_in 841 (by decide +kernel) rfl
theorem w9_842 : (Jvm.Cond.static ({ cls := "LorryArmsModel", name := "of", desc := "([III)I" } : Jvm.MethodName)) ∈ gw9 := gw9_in 842 (by decide +kernel) rfl
theorem w9_843 : (Jvm.Cond.code ({ cls := "LorryArmsModel", name := "of", desc := "([III)I" } : Jvm.MethodName) prog_5_method_9_code (3 : Nat) (Option.some Jvm.ClassFile.FieldType.int)) ∈ gw9 := gw9_in 843 (by decide +kernel) rfl
theorem w9_844 : (Jvm.Cond.methodLink "LorryArmsModel" (163 : Nat) ({ cls := "LorryArmsModel", name := "arriveOn", desc := "([IIIZZ)I" } : Jvm.MethodName)) ∈ gw9 := gw9_in 844 (by decide +kernel) rfl
theorem w9_845 : (Jvm.Cond.static ({ cls := "LorryArmsModel", name := "arriveOn", desc := "([IIIZZ)I" } : Jvm.MethodName)) ∈ gw9 := gw9_in 845 (by decide +kernel) rfl
theorem w9_846 : (Jvm.Cond.code ({ cls := "LorryArmsModel", name := "arriveOn", desc := "([IIIZZ)I" } : Jvm.MethodName) prog_5_method_30_code (7 : Nat) (Option.some Jvm.ClassFile.FieldType.int)) ∈ gw9 := gw9_in 846 (by decide +kernel) rfl
theorem w9_847 : (Jvm.Cond.methodLink "LorryArmsModel" (60 : Nat) ({ cls := "LorryArmsModel", name := "last", desc := "([III)I" } : Jvm.MethodName)) ∈ gw9 := gw9_in 847 (by decide +kernel) rfl
theorem w9_848 : (Jvm.Cond.static ({ cls := "LorryArmsModel", name := "last", desc := "([III)I" } : Jvm.MethodName)) ∈ gw9 := gw9_in 848 (by decide +kernel) rfl
theorem w9_849 : (Jvm.Cond.code ({ cls := "LorryArmsModel", name := "last", desc := "([III)I" } : Jvm.MethodName) prog_5_method_13_code (3 : Nat) (Option.some Jvm.ClassFile.FieldType.int)) ∈ gw9 := gw9_in 849 (by decide +kernel) rfl
theorem w9_850 : (Jvm.Cond.methodLink "LorryArmsModel" (56 : Nat) ({ cls := "LorryArmsModel", name := "told", desc := "([IIII)I" } : Jvm.MethodName)) ∈ gw9 := gw9_in 850 (by decide +kernel) rfl
theorem w9_851 : (Jvm.Cond.static ({ cls := "LorryArmsModel", name := "told", desc := "([IIII)I" } : Jvm.MethodName)) ∈ gw9 := gw9_in 851 (by decide +kernel) rfl
theorem w9_852 : (Jvm.Cond.code ({ cls := "LorryArmsModel", name := "told", desc := "([IIII)I" } : Jvm.MethodName) prog_5_method_12_code (4 : Nat) (Option.some Jvm.ClassFile.FieldType.int)) ∈ gw9 := gw9_in 852 (by decide +kernel) rfl
theorem w9_853 : (Jvm.Cond.methodLink "LorryArmsModel" (52 : Nat) ({ cls := "LorryArmsModel", name := "place", desc := "(II)I" } : Jvm.MethodName)) ∈ gw9 := gw9_in 853 (by decide +kernel) rfl
theorem w9_854 : (Jvm.Cond.static ({ cls := "LorryArmsModel", name := "place", desc := "(II)I" } : Jvm.MethodName)) ∈ gw9 := gw9_in 854 (by decide +kernel) rfl
theorem w9_855 : (Jvm.Cond.code ({ cls := "LorryArmsModel", name := "place", desc := "(II)I" } : Jvm.MethodName) prog_5_method_11_code (2 : Nat) (Option.some Jvm.ClassFile.FieldType.int)) ∈ gw9 := gw9_in 855 (by decide +kernel) rfl
theorem w9_856 : (Jvm.Cond.methodLink "LorryArmsModel" (167 : Nat) ({ cls := "LorryArmsModel", name := "loopOn", desc := "([IIZ)I" } : Jvm.MethodName)) ∈ gw9 := gw9_in 856 (by decide +kernel) rfl
theorem w9_857 : (Jvm.Cond.static ({ cls := "LorryArmsModel", name := "loopOn", desc := "([IIZ)I" } : Jvm.MethodName)) ∈ gw9 := gw9_in 857 (by decide +kernel) rfl
theorem w9_858 : (Jvm.Cond.code ({ cls := "LorryArmsModel", name := "loopOn", desc := "([IIZ)I" } : Jvm.MethodName) prog_5_method_32_code (3 : Nat) (Option.some Jvm.ClassFile.FieldType.int)) ∈ gw9 := gw9_in 858 (by decide +kernel) rfl
theorem w9_859 : (Jvm.Cond.methodLink "LorryArmsModel" (118 : Nat) ({ cls := "LorryArmsModel", name := "sum", desc := "([II)I" } : Jvm.MethodName)) ∈ gw9 := gw9_in 859 (by decide +kernel) rfl
theorem w9_860 : (Jvm.Cond.static ({ cls := "LorryArmsModel", name := "sum", desc := "([II)I" } : Jvm.MethodName)) ∈ gw9 := gw9_in 860 (by decide +kernel) rfl
theorem w9_861 : (Jvm.Cond.code ({ cls := "LorryArmsModel", name := "sum", desc := "([II)I" } : Jvm.MethodName) prog_5_method_31_code (4 : Nat) (Option.some Jvm.ClassFile.FieldType.int)) ∈ gw9 := gw9_in 861 (by decide +kernel) rfl
theorem w9_862 : (Jvm.Cond.methodLink "LorryArmsModel" (171 : Nat) ({ cls := "LorryArmsModel", name := "canMend", desc := "([II)Z" } : Jvm.MethodName)) ∈ gw9 := gw9_in 862 (by decide +kernel) rfl
theorem w9_863 : (Jvm.Cond.static ({ cls := "LorryArmsModel", name := "canMend", desc := "([II)Z" } : Jvm.MethodName)) ∈ gw9 := gw9_in 863 (by decide +kernel) rfl
theorem w9_864 : (Jvm.Cond.code ({ cls := "LorryArmsModel", name := "canMend", desc := "([II)Z" } : Jvm.MethodName) prog_5_method_33_code (2 : Nat) (Option.some Jvm.ClassFile.FieldType.boolean)) ∈ gw9 := gw9_in 864 (by decide +kernel) rfl
theorem w9_865 : (Jvm.Cond.methodLink "LorryArmsModel" (86 : Nat) ({ cls := "LorryArmsModel", name := "isCovered", desc := "([II)Z" } : Jvm.MethodName)) ∈ gw9 := gw9_in 865 (by decide +kernel) rfl
theorem w9_866 : (Jvm.Cond.static ({ cls := "LorryArmsModel", name := "isCovered", desc := "([II)Z" } : Jvm.MethodName)) ∈ gw9 := gw9_in 866 (by decide +kernel) rfl
theorem w9_867 : (Jvm.Cond.code ({ cls := "LorryArmsModel", name := "isCovered", desc := "([II)Z" } : Jvm.MethodName) prog_5_method_15_code (3 : Nat) (Option.some Jvm.ClassFile.FieldType.boolean)) ∈ gw9 := gw9_in 867 (by decide +kernel) rfl
theorem w9_868 : (Jvm.Cond.methodLink "LorryArmsModel" (63 : Nat) ({ cls := "LorryArmsModel", name := "covers", desc := "([IIII)Z" } : Jvm.MethodName)) ∈ gw9 := gw9_in 868 (by decide +kernel) rfl
theorem w9_869 : (Jvm.Cond.static ({ cls := "LorryArmsModel", name := "covers", desc := "([IIII)Z" } : Jvm.MethodName)) ∈ gw9 := gw9_in 869 (by decide +kernel) rfl
theorem w9_870 : (Jvm.Cond.code ({ cls := "LorryArmsModel", name := "covers", desc := "([IIII)Z" } : Jvm.MethodName) prog_5_method_14_code (4 : Nat) (Option.some Jvm.ClassFile.FieldType.boolean)) ∈ gw9 := gw9_in 870 (by decide +kernel) rfl
theorem w9_871 : (Jvm.Cond.methodLink "LorryArmsModel" (174 : Nat) ({ cls := "LorryArmsModel", name := "mendOn", desc := "([II)I" } : Jvm.MethodName)) ∈ gw9 := gw9_in 871 (by decide +kernel) rfl
theorem w9_872 : (Jvm.Cond.static ({ cls := "LorryArmsModel", name := "mendOn", desc := "([II)I" } : Jvm.MethodName)) ∈ gw9 := gw9_in 872 (by decide +kernel) rfl
theorem w9_873 : (Jvm.Cond.code ({ cls := "LorryArmsModel", name := "mendOn", desc := "([II)I" } : Jvm.MethodName) prog_5_method_34_code (2 : Nat) (Option.some Jvm.ClassFile.FieldType.int)) ∈ gw9 := gw9_in 873 (by decide +kernel) rfl
theorem w9_874 : (Jvm.Cond.methodLink "LorryArmsModel" (177 : Nat) ({ cls := "LorryArmsModel", name := "runOn", desc := "([II)I" } : Jvm.MethodName)) ∈ gw9 := gw9_in 874 (by decide +kernel) rfl
theorem w9_876 : (Jvm.Cond.instanceMethod ({ cls := "LorryArmsModel", name := "runOn", desc := "([II)I" } : Jvm.MethodName)) ∈ gw9 := gw9_in 876 (by decide +kernel) rfl
theorem w9_877 : (Jvm.Cond.code ({ cls := "LorryArmsModel", name := "runOn", desc := "([II)I" } : Jvm.MethodName) prog_5_method_26_code (5 : Nat) (Option.some Jvm.ClassFile.FieldType.int)) ∈ gw9 := gw9_in 877 (by decide +kernel) rfl
theorem w9_878 : (Jvm.Cond.methodLink "LorryArmsModel" (107 : Nat) ({ cls := "LorryArmsModel", name := "tickOn", desc := "([I)V" } : Jvm.MethodName)) ∈ gw9 := gw9_in 878 (by decide +kernel) rfl
theorem w9_880 : (Jvm.Cond.instanceMethod ({ cls := "LorryArmsModel", name := "tickOn", desc := "([I)V" } : Jvm.MethodName)) ∈ gw9 := gw9_in 880 (by decide +kernel) rfl
theorem w9_881 : (Jvm.Cond.code ({ cls := "LorryArmsModel", name := "tickOn", desc := "([I)V" } : Jvm.MethodName) prog_5_method_25_code (3 : Nat) (Option.none : Option Jvm.ClassFile.FieldType)) ∈ gw9 := gw9_in 881 (by decide +kernel) rfl
theorem w9_882 : (Jvm.Cond.methodLink "LorryArmsModel" (89 : Nat) ({ cls := "LorryArmsModel", name := "moveAll", desc := "([II)V" } : Jvm.MethodName)) ∈ gw9 := gw9_in 882 (by decide +kernel) rfl
theorem w9_884 : (Jvm.Cond.instanceMethod ({ cls := "LorryArmsModel", name := "moveAll", desc := "([II)V" } : Jvm.MethodName)) ∈ gw9 := gw9_in 884 (by decide +kernel) rfl
theorem w9_885 : (Jvm.Cond.code ({ cls := "LorryArmsModel", name := "moveAll", desc := "([II)V" } : Jvm.MethodName) prog_5_method_18_code (4 : Nat) (Option.none : Option Jvm.ClassFile.FieldType)) ∈ gw9 := gw9_in 885 (by decide +kernel) rfl
theorem w9_886 : (Jvm.Cond.methodLink "LorryArmsModel" (71 : Nat) ({ cls := "LorryArmsModel", name := "canMove", desc := "([III)Z" } : Jvm.MethodName)) ∈ gw9 := gw9_in 886 (by decide +kernel) rfl
theorem w9_887 : (Jvm.Cond.static ({ cls := "LorryArmsModel", name := "canMove", desc := "([III)Z" } : Jvm.MethodName)) ∈ gw9 := gw9_in 887 (by decide +kernel) rfl
theorem w9_888 : (Jvm.Cond.code ({ cls := "LorryArmsModel", name := "canMove", desc := "([III)Z" } : Jvm.MethodName) prog_5_method_16_code (4 : Nat) (Option.some Jvm.ClassFile.FieldType.boolean)) ∈ gw9 := gw9_in 888 (by decide +kernel) rfl
theorem w9_889 : (Jvm.Cond.methodLink "LorryArmsModel" (75 : Nat) ({ cls := "LorryArmsModel", name := "dropFirst", desc := "([II)V" } : Jvm.MethodName)) ∈ gw9 := gw9_in 889 (by decide +kernel) rfl
theorem w9_890 : (Jvm.Cond.static ({ cls := "LorryArmsModel", name := "dropFirst", desc := "([II)V" } : Jvm.MethodName)) ∈ gw9 := gw9_in 890 (by decide +kernel) rfl
theorem w9_891 : (Jvm.Cond.code ({ cls := "LorryArmsModel", name := "dropFirst", desc := "([II)V" } : Jvm.MethodName) prog_5_method_17_code (3 : Nat) (Option.none : Option Jvm.ClassFile.FieldType)) ∈ gw9 := gw9_in 891 (by decide +kernel) rfl
theorem w9_892 : (Jvm.Cond.methodLink "LorryArmsModel" (92 : Nat) ({ cls := "LorryArmsModel", name := "check", desc := "([II)V" } : Jvm.MethodName)) ∈ gw9 := gw9_in 892 (by decide +kernel) rfl
theorem w9_893 : (Jvm.Cond.static ({ cls := "LorryArmsModel", name := "check", desc := "([II)V" } : Jvm.MethodName)) ∈ gw9 := gw9_in 893 (by decide +kernel) rfl
theorem w9_894 : (Jvm.Cond.code ({ cls := "LorryArmsModel", name := "check", desc := "([II)V" } : Jvm.MethodName) prog_5_method_20_code (6 : Nat) (Option.none : Option Jvm.ClassFile.FieldType)) ∈ gw9 := gw9_in 894 (by decide +kernel) rfl
theorem w9_895 : (Jvm.Cond.methodLink "LorryArmsModel" (79 : Nat) ({ cls := "LorryArmsModel", name := "checked", desc := "([II)I" } : Jvm.MethodName)) ∈ gw9 := gw9_in 895 (by decide +kernel) rfl
theorem w9_896 : (Jvm.Cond.static ({ cls := "LorryArmsModel", name := "checked", desc := "([II)I" } : Jvm.MethodName)) ∈ gw9 := gw9_in 896 (by decide +kernel) rfl
theorem w9_897 : (Jvm.Cond.code ({ cls := "LorryArmsModel", name := "checked", desc := "([II)I" } : Jvm.MethodName) prog_5_method_19_code (3 : Nat) (Option.some Jvm.ClassFile.FieldType.int)) ∈ gw9 := gw9_in 897 (by decide +kernel) rfl
theorem w9_898 : (Jvm.Cond.methodLink "LorryArmsModel" (95 : Nat) ({ cls := "LorryArmsModel", name := "turnArm", desc := "([II)V" } : Jvm.MethodName)) ∈ gw9 := gw9_in 898 (by decide +kernel) rfl
theorem w9_899 : (Jvm.Cond.static ({ cls := "LorryArmsModel", name := "turnArm", desc := "([II)V" } : Jvm.MethodName)) ∈ gw9 := gw9_in 899 (by decide +kernel) rfl
theorem w9_900 : (Jvm.Cond.code ({ cls := "LorryArmsModel", name := "turnArm", desc := "([II)V" } : Jvm.MethodName) prog_5_method_22_code (4 : Nat) (Option.none : Option Jvm.ClassFile.FieldType)) ∈ gw9 := gw9_in 900 (by decide +kernel) rfl
theorem w9_901 : (Jvm.Cond.methodLink "LorryArmsModel" (83 : Nat) ({ cls := "LorryArmsModel", name := "reason", desc := "([II)I" } : Jvm.MethodName)) ∈ gw9 := gw9_in 901 (by decide +kernel) rfl
theorem w9_902 : (Jvm.Cond.static ({ cls := "LorryArmsModel", name := "reason", desc := "([II)I" } : Jvm.MethodName)) ∈ gw9 := gw9_in 902 (by decide +kernel) rfl
theorem w9_903 : (Jvm.Cond.code ({ cls := "LorryArmsModel", name := "reason", desc := "([II)I" } : Jvm.MethodName) prog_5_method_21_code (6 : Nat) (Option.some Jvm.ClassFile.FieldType.int)) ∈ gw9 := gw9_in 903 (by decide +kernel) rfl
theorem w9_904 : (Jvm.Cond.methodLink "LorryArmsModel" (101 : Nat) ({ cls := "LorryArmsModel", name := "hit", desc := "([II)V" } : Jvm.MethodName)) ∈ gw9 := gw9_in 904 (by decide +kernel) rfl
theorem w9_905 : (Jvm.Cond.static ({ cls := "LorryArmsModel", name := "hit", desc := "([II)V" } : Jvm.MethodName)) ∈ gw9 := gw9_in 905 (by decide +kernel) rfl
theorem w9_906 : (Jvm.Cond.code ({ cls := "LorryArmsModel", name := "hit", desc := "([II)V" } : Jvm.MethodName) prog_5_method_23_code (2 : Nat) (Option.none : Option Jvm.ClassFile.FieldType)) ∈ gw9 := gw9_in 906 (by decide +kernel) rfl
theorem w9_907 : (Jvm.Cond.methodLink "LorryArmsModel" (104 : Nat) ({ cls := "LorryArmsModel", name := "goThrough", desc := "([II)V" } : Jvm.MethodName)) ∈ gw9 := gw9_in 907 (by decide +kernel) rfl
theorem w9_909 : (Jvm.Cond.instanceMethod ({ cls := "LorryArmsModel", name := "goThrough", desc := "([II)V" } : Jvm.MethodName)) ∈ gw9 := gw9_in 909 (by decide +kernel) rfl
theorem w9_910 : (Jvm.Cond.code ({ cls := "LorryArmsModel", name := "goThrough", desc := "([II)V" } : Jvm.MethodName) prog_5_method_24_code (6 : Nat) (Option.none : Option Jvm.ClassFile.FieldType)) ∈ gw9 := gw9_in 910 (by decide +kernel) rfl
theorem w9_911 : (Jvm.Cond.methodLink "LorryArmsLaw" (116 : Nat) ({ cls := "LorryArmsModel", name := "load", desc := "()I" } : Jvm.MethodName)) ∈ gw9 := gw9_in 911 (by decide +kernel) rfl
theorem w9_912 : (Jvm.Cond.instanceMethod ({ cls := "LorryArmsModel", name := "load", desc := "()I" } : Jvm.MethodName)) ∈ gw9 := gw9_in 912 (by decide +kernel) rfl
theorem w9_913 : (Jvm.Cond.selects "LorryArmsModel" ({ cls := "LorryArmsModel", name := "load", desc := "()I" } : Jvm.MethodName) ({ cls := "LorryArmsModel", name := "load", desc := "()I" } : Jvm.MethodName)) ∈ gw9 := gw9_in 913 (by decide +kernel) rfl
theorem w9_914 : (Jvm.Cond.code ({ cls := "LorryArmsModel", name := "load", desc := "()I" } : Jvm.MethodName) prog_5_method_45_code (1 : Nat) (Option.some Jvm.ClassFile.FieldType.int)) ∈ gw9 := gw9_in 914 (by decide +kernel) rfl
theorem w9_915 : (Jvm.Cond.methodLink "LorryArmsModel" (187 : Nat) ({ cls := "LorryArmsModel", name := "copyState", desc := "([II[II)V" } : Jvm.MethodName)) ∈ gw9 := gw9_in 915 (by decide +kernel) rfl
theorem w9_916 : (Jvm.Cond.static ({ cls := "LorryArmsModel", name := "copyState", desc := "([II[II)V" } : Jvm.MethodName)) ∈ gw9 := gw9_in 916 (by decide +kernel) rfl
theorem w9_917 : (Jvm.Cond.code ({ cls := "LorryArmsModel", name := "copyState", desc := "([II[II)V" } : Jvm.MethodName) prog_5_method_5_code (5 : Nat) (Option.none : Option Jvm.ClassFile.FieldType)) ∈ gw9 := gw9_in 917 (by decide +kernel) rfl
theorem w9_918 : (Jvm.Cond.methodLink "LorryArmsLaw" (119 : Nat) ({ cls := "LorryArmsModel", name := "about", desc := "(I)I" } : Jvm.MethodName)) ∈ gw9 := gw9_in 918 (by decide +kernel) rfl
theorem w9_919 : (Jvm.Cond.instanceMethod ({ cls := "LorryArmsModel", name := "about", desc := "(I)I" } : Jvm.MethodName)) ∈ gw9 := gw9_in 919 (by decide +kernel) rfl
theorem w9_920 : (Jvm.Cond.selects "LorryArmsModel" ({ cls := "LorryArmsModel", name := "about", desc := "(I)I" } : Jvm.MethodName) ({ cls := "LorryArmsModel", name := "about", desc := "(I)I" } : Jvm.MethodName)) ∈ gw9 := gw9_in 920 (by decide +kernel) rfl
theorem w9_921 : (Jvm.Cond.code ({ cls := "LorryArmsModel", name := "about", desc := "(I)I" } : Jvm.MethodName) prog_5_method_46_code (2 : Nat) (Option.some Jvm.ClassFile.FieldType.int)) ∈ gw9 := gw9_in 921 (by decide +kernel) rfl
theorem w9_922 : (Jvm.Cond.methodLink "LorryArmsLaw" (123 : Nat) ({ cls := "LorryArmsModel", name := "laneOf", desc := "(II)I" } : Jvm.MethodName)) ∈ gw9 := gw9_in 922 (by decide +kernel) rfl
theorem w9_923 : (Jvm.Cond.instanceMethod ({ cls := "LorryArmsModel", name := "laneOf", desc := "(II)I" } : Jvm.MethodName)) ∈ gw9 := gw9_in 923 (by decide +kernel) rfl
theorem w9_924 : (Jvm.Cond.selects "LorryArmsModel" ({ cls := "LorryArmsModel", name := "laneOf", desc := "(II)I" } : Jvm.MethodName) ({ cls := "LorryArmsModel", name := "laneOf", desc := "(II)I" } : Jvm.MethodName)) ∈ gw9 := gw9_in 924 (by decide +kernel) rfl
theorem w9_925 : (Jvm.Cond.code ({ cls := "LorryArmsModel", name := "laneOf", desc := "(II)I" } : Jvm.MethodName) prog_5_method_47_code (5 : Nat) (Option.some Jvm.ClassFile.FieldType.int)) ∈ gw9 := gw9_in 925 (by decide +kernel) rfl
theorem w9_926 : (Jvm.Cond.constantLong "LorryArmsModel" (194 : Nat) (7 : Int64)) ∈ gw9 := gw9_in 926 (by decide +kernel) rfl
theorem w9_927 : (Jvm.Cond.methodLink "LorryArmsLaw" (127 : Nat) ({ cls := "LorryArmsModel", name := "vehicle", desc := "(III)I" } : Jvm.MethodName)) ∈ gw9 := gw9_in 927 (by decide +kernel) rfl
theorem w9_928 : (Jvm.Cond.instanceMethod ({ cls := "LorryArmsModel", name := "vehicle", desc := "(III)I" } : Jvm.MethodName)) ∈ gw9 := gw9_in 928 (by decide +kernel) rfl
theorem w9_929 : (Jvm.Cond.selects "LorryArmsModel" ({ cls := "LorryArmsModel", name := "vehicle", desc := "(III)I" } : Jvm.MethodName) ({ cls := "LorryArmsModel", name := "vehicle", desc := "(III)I" } : Jvm.MethodName)) ∈ gw9 := gw9_in 929 (by decide +kernel) rfl
theorem w9_930 : (Jvm.Cond.code ({ cls := "LorryArmsModel", name := "vehicle", desc := "(III)I" } : Jvm.MethodName) prog_5_method_48_code (4 : Nat) (Option.some Jvm.ClassFile.FieldType.int)) ∈ gw9 := gw9_in 930 (by decide +kernel) rfl
theorem w9_931 : (Jvm.Cond.methodLink "LorryArmsModel" (196 : Nat) ({ cls := "LorryArmsModel", name := "isVehicle", desc := "([III)Z" } : Jvm.MethodName)) ∈ gw9 := gw9_in 931 (by decide +kernel) rfl
theorem w9_932 : (Jvm.Cond.static ({ cls := "LorryArmsModel", name := "isVehicle", desc := "([III)Z" } : Jvm.MethodName)) ∈ gw9 := gw9_in 932 (by decide +kernel) rfl
theorem w9_933 : (Jvm.Cond.code ({ cls := "LorryArmsModel", name := "isVehicle", desc := "([III)Z" } : Jvm.MethodName) prog_5_method_8_code (3 : Nat) (Option.some Jvm.ClassFile.FieldType.boolean)) ∈ gw9 := gw9_in 933 (by decide +kernel) rfl
theorem w9_934 : (Jvm.Cond.constantLong "LorryArmsModel" (199 : Nat) (4 : Int64)) ∈ gw9 := gw9_in 934 (by decide +kernel) rfl
theorem w9_935 : (Jvm.Cond.methodLink "LorryArmsLaw" (130 : Nat) ({ cls := "LorryArmsModel", name := "why", desc := "(I)I" } : Jvm.MethodName)) ∈ gw9 := gw9_in 935 (by decide +kernel) rfl
theorem w9_936 : (Jvm.Cond.instanceMethod ({ cls := "LorryArmsModel", name := "why", desc := "(I)I" } : Jvm.MethodName)) ∈ gw9 := gw9_in 936 (by decide +kernel) rfl
theorem w9_937 : (Jvm.Cond.selects "LorryArmsModel" ({ cls := "LorryArmsModel", name := "why", desc := "(I)I" } : Jvm.MethodName) ({ cls := "LorryArmsModel", name := "why", desc := "(I)I" } : Jvm.MethodName)) ∈ gw9 := gw9_in 937 (by decide +kernel) rfl
theorem w9_938 : (Jvm.Cond.code ({ cls := "LorryArmsModel", name := "why", desc := "(I)I" } : Jvm.MethodName) prog_5_method_50_code (2 : Nat) (Option.some Jvm.ClassFile.FieldType.int)) ∈ gw9 := gw9_in 938 (by decide +kernel) rfl
theorem w9_939 : (Jvm.Cond.methodLink "LorryArmsModel" (201 : Nat) ({ cls := "LorryArmsModel", name := "whyOf", desc := "([II)I" } : Jvm.MethodName)) ∈ gw9 := gw9_in 939 (by decide +kernel) rfl
theorem w9_940 : (Jvm.Cond.static ({ cls := "LorryArmsModel", name := "whyOf", desc := "([II)I" } : Jvm.MethodName)) ∈ gw9 := gw9_in 940 (by decide +kernel) rfl
theorem w9_941 : (Jvm.Cond.code ({ cls := "LorryArmsModel", name := "whyOf", desc := "([II)I" } : Jvm.MethodName) prog_5_method_49_code (2 : Nat) (Option.some Jvm.ClassFile.FieldType.int)) ∈ gw9 := gw9_in 941 (by decide +kernel) rfl
theorem w9_942 : (Jvm.Cond.methodLink "LorryArmsLaw" (133 : Nat) ({ cls := "LorryArmsModel", name := "setting", desc := "(I)I" } : Jvm.MethodName)) ∈ gw9 := gw9_in 942 (by decide +kernel) rfl
theorem w9_943 : (Jvm.Cond.instanceMethod ({ cls := "LorryArmsModel", name := "setting", desc := "(I)I" } : Jvm.MethodName)) ∈ gw9 := gw9_in 943 (by decide +kernel) rfl
theorem w9_944 : (Jvm.Cond.selects "LorryArmsModel" ({ cls := "LorryArmsModel", name := "setting", desc := "(I)I" } : Jvm.MethodName) ({ cls := "LorryArmsModel", name := "setting", desc := "(I)I" } : Jvm.MethodName)) ∈ gw9 := gw9_in 944 (by decide +kernel) rfl
theorem w9_945 : (Jvm.Cond.code ({ cls := "LorryArmsModel", name := "setting", desc := "(I)I" } : Jvm.MethodName) prog_5_method_51_code (2 : Nat) (Option.some Jvm.ClassFile.FieldType.int)) ∈ gw9 := gw9_in 945 (by decide +kernel) rfl
theorem w9_946 : (Jvm.Cond.methodLink "LorryArmsLaw" (136 : Nat) ({ cls := "LorryArmsModel", name := "lane", desc := "()I" } : Jvm.MethodName)) ∈ gw9 := gw9_in 946 (by decide +kernel) rfl
theorem w9_947 : (Jvm.Cond.instanceMethod ({ cls := "LorryArmsModel", name := "lane", desc := "()I" } : Jvm.MethodName)) ∈ gw9 := gw9_in 947 (by decide +kernel) rfl
theorem w9_948 : (Jvm.Cond.selects "LorryArmsModel" ({ cls := "LorryArmsModel", name := "lane", desc := "()I" } : Jvm.MethodName) ({ cls := "LorryArmsModel", name := "lane", desc := "()I" } : Jvm.MethodName)) ∈ gw9 := gw9_in 948 (by decide +kernel) rfl
theorem w9_949 : (Jvm.Cond.code ({ cls := "LorryArmsModel", name := "lane", desc := "()I" } : Jvm.MethodName) prog_5_method_53_code (1 : Nat) (Option.some Jvm.ClassFile.FieldType.int)) ∈ gw9 := gw9_in 949 (by decide +kernel) rfl
theorem w9_950 : (Jvm.Cond.methodLink "LorryArmsModel" (204 : Nat) ({ cls := "LorryArmsModel", name := "remember", desc := "()V" } : Jvm.MethodName)) ∈ gw9 := gw9_in 950 (by decide +kernel) rfl
theorem w9_952 : (Jvm.Cond.instanceMethod ({ cls := "LorryArmsModel", name := "remember", desc := "()V" } : Jvm.MethodName)) ∈ gw9 := gw9_in 952 (by decide +kernel) rfl
theorem w9_953 : (Jvm.Cond.code ({ cls := "LorryArmsModel", name := "remember", desc := "()V" } : Jvm.MethodName) prog_5_method_52_code (2 : Nat) (Option.none : Option Jvm.ClassFile.FieldType)) ∈ gw9 := gw9_in 953 (by decide +kernel) rfl
theorem w9_954 : (Jvm.Cond.methodLink "LorryArmsLaw" (140 : Nat) ({ cls := "LorryArmsModel", name := "arrive", desc := "(IIZZ)I" } : Jvm.MethodName)) ∈ gw9 := gw9_in 954 (by decide +kernel) rfl
theorem w9_955 : (Jvm.Cond.instanceMethod ({ cls := "LorryArmsModel", name := "arrive", desc := "(IIZZ)I" } : Jvm.MethodName)) ∈ gw9 := gw9_in 955 (by decide +kernel) rfl
theorem w9_956 : (Jvm.Cond.selects "LorryArmsModel" ({ cls := "LorryArmsModel", name := "arrive", desc := "(IIZZ)I" } : Jvm.MethodName) ({ cls := "LorryArmsModel", name := "arrive", desc := "(IIZZ)I" } : Jvm.MethodName)) ∈ gw9 := gw9_in 956 (by decide +kernel) rfl
theorem w9_957 : (Jvm.Cond.code ({ cls := "LorryArmsModel", name := "arrive", desc := "(IIZZ)I" } : Jvm.MethodName) prog_5_method_54_code (5 : Nat) (Option.some Jvm.ClassFile.FieldType.int)) ∈ gw9 := gw9_in 957 (by decide +kernel) rfl
theorem w9_958 : (Jvm.Cond.methodLink "LorryArmsLaw" (144 : Nat) ({ cls := "LorryArmsModel", name := "loop", desc := "(IZ)I" } : Jvm.MethodName)) ∈ gw9 := gw9_in 958 (by decide +kernel) rfl
theorem w9_959 : (Jvm.Cond.instanceMethod ({ cls := "LorryArmsModel", name := "loop", desc := "(IZ)I" } : Jvm.MethodName)) ∈ gw9 := gw9_in 959 (by decide +kernel) rfl
theorem w9_960 : (Jvm.Cond.selects "LorryArmsModel" ({ cls := "LorryArmsModel", name := "loop", desc := "(IZ)I" } : Jvm.MethodName) ({ cls := "LorryArmsModel", name := "loop", desc := "(IZ)I" } : Jvm.MethodName)) ∈ gw9 := gw9_in 960 (by decide +kernel) rfl
theorem w9_961 : (Jvm.Cond.code ({ cls := "LorryArmsModel", name := "loop", desc := "(IZ)I" } : Jvm.MethodName) prog_5_method_55_code (3 : Nat) (Option.some Jvm.ClassFile.FieldType.int)) ∈ gw9 := gw9_in 961 (by decide +kernel) rfl
theorem w9_962 : (Jvm.Cond.methodLink "LorryArmsLaw" (147 : Nat) ({ cls := "LorryArmsModel", name := "mend", desc := "(I)I" } : Jvm.MethodName)) ∈ gw9 := gw9_in 962 (by decide +kernel) rfl
theorem w9_963 : (Jvm.Cond.instanceMethod ({ cls := "LorryArmsModel", name := "mend", desc := "(I)I" } : Jvm.MethodName)) ∈ gw9 := gw9_in 963 (by decide +kernel) rfl
theorem w9_964 : (Jvm.Cond.selects "LorryArmsModel" ({ cls := "LorryArmsModel", name := "mend", desc := "(I)I" } : Jvm.MethodName) ({ cls := "LorryArmsModel", name := "mend", desc := "(I)I" } : Jvm.MethodName)) ∈ gw9 := gw9_in 964 (by decide +kernel) rfl
theorem w9_965 : (Jvm.Cond.code ({ cls := "LorryArmsModel", name := "mend", desc := "(I)I" } : Jvm.MethodName) prog_5_method_56_code (2 : Nat) (Option.some Jvm.ClassFile.FieldType.int)) ∈ gw9 := gw9_in 965 (by decide +kernel) rfl
theorem w9_966 : (Jvm.Cond.methodLink "LorryArmsLaw" (150 : Nat) ({ cls := "LorryArmsModel", name := "run", desc := "(I)I" } : Jvm.MethodName)) ∈ gw9 := gw9_in 966 (by decide +kernel) rfl
theorem w9_967 : (Jvm.Cond.instanceMethod ({ cls := "LorryArmsModel", name := "run", desc := "(I)I" } : Jvm.MethodName)) ∈ gw9 := gw9_in 967 (by decide +kernel) rfl
theorem w9_968 : (Jvm.Cond.selects "LorryArmsModel" ({ cls := "LorryArmsModel", name := "run", desc := "(I)I" } : Jvm.MethodName) ({ cls := "LorryArmsModel", name := "run", desc := "(I)I" } : Jvm.MethodName)) ∈ gw9 := gw9_in 968 (by decide +kernel) rfl
theorem w9_969 : (Jvm.Cond.code ({ cls := "LorryArmsModel", name := "run", desc := "(I)I" } : Jvm.MethodName) prog_5_method_57_code (2 : Nat) (Option.some Jvm.ClassFile.FieldType.int)) ∈ gw9 := gw9_in 969 (by decide +kernel) rfl
theorem w9_970 : (Jvm.Cond.constantLong "LorryArmsModel" (123 : Nat) (60 : Int64)) ∈ gw9 := gw9_in 970 (by decide +kernel) rfl
theorem w9_971 : (Jvm.Cond.methodLink "LorryArmsLaw" (153 : Nat) ({ cls := "LorryArmsModel", name := "set", desc := "(II)I" } : Jvm.MethodName)) ∈ gw9 := gw9_in 971 (by decide +kernel) rfl
theorem w9_972 : (Jvm.Cond.instanceMethod ({ cls := "LorryArmsModel", name := "set", desc := "(II)I" } : Jvm.MethodName)) ∈ gw9 := gw9_in 972 (by decide +kernel) rfl
theorem w9_973 : (Jvm.Cond.selects "LorryArmsModel" ({ cls := "LorryArmsModel", name := "set", desc := "(II)I" } : Jvm.MethodName) ({ cls := "LorryArmsModel", name := "set", desc := "(II)I" } : Jvm.MethodName)) ∈ gw9 := gw9_in 973 (by decide +kernel) rfl
theorem w9_974 : (Jvm.Cond.code ({ cls := "LorryArmsModel", name := "set", desc := "(II)I" } : Jvm.MethodName) prog_5_method_58_code (4 : Nat) (Option.some Jvm.ClassFile.FieldType.int)) ∈ gw9 := gw9_in 974 (by decide +kernel) rfl
theorem w9_975 : (Jvm.Cond.methodLink "LorryArmsModel" (207 : Nat) ({ cls := "LorryArmsModel", name := "isSetting", desc := "(II)Z" } : Jvm.MethodName)) ∈ gw9 := gw9_in 975 (by decide +kernel) rfl
theorem w9_976 : (Jvm.Cond.static ({ cls := "LorryArmsModel", name := "isSetting", desc := "(II)Z" } : Jvm.MethodName)) ∈ gw9 := gw9_in 976 (by decide +kernel) rfl
theorem w9_977 : (Jvm.Cond.code ({ cls := "LorryArmsModel", name := "isSetting", desc := "(II)Z" } : Jvm.MethodName) prog_5_method_35_code (2 : Nat) (Option.some Jvm.ClassFile.FieldType.boolean)) ∈ gw9 := gw9_in 977 (by decide +kernel) rfl
theorem w9_978 : (Jvm.Cond.constantLong "LorryArmsModel" (121 : Nat) (20 : Int64)) ∈ gw9 := gw9_in 978 (by decide +kernel) rfl
theorem w9_979 : (Jvm.Cond.methodLink "LorryArmsLaw" (156 : Nat) ({ cls := "LorryArmsModel", name := "undo", desc := "()I" } : Jvm.MethodName)) ∈ gw9 := gw9_in 979 (by decide +kernel) rfl
theorem w9_980 : (Jvm.Cond.instanceMethod ({ cls := "LorryArmsModel", name := "undo", desc := "()I" } : Jvm.MethodName)) ∈ gw9 := gw9_in 980 (by decide +kernel) rfl
theorem w9_981 : (Jvm.Cond.selects "LorryArmsModel" ({ cls := "LorryArmsModel", name := "undo", desc := "()I" } : Jvm.MethodName) ({ cls := "LorryArmsModel", name := "undo", desc := "()I" } : Jvm.MethodName)) ∈ gw9 := gw9_in 981 (by decide +kernel) rfl
theorem w9_982 : (Jvm.Cond.code ({ cls := "LorryArmsModel", name := "undo", desc := "()I" } : Jvm.MethodName) prog_5_method_59_code (1 : Nat) (Option.some Jvm.ClassFile.FieldType.int)) ∈ gw9 := gw9_in 982 (by decide +kernel) rfl
theorem w9_983 : (Jvm.Cond.methodLink "LorryArmsLaw" (159 : Nat) ({ cls := "LorryArmsModel", name := "emptyIn", desc := "(I)I" } : Jvm.MethodName)) ∈ gw9 := gw9_in 983 (by decide +kernel) rfl
theorem w9_984 : (Jvm.Cond.instanceMethod ({ cls := "LorryArmsModel", name := "emptyIn", desc := "(I)I" } : Jvm.MethodName)) ∈ gw9 := gw9_in 984 (by decide +kernel) rfl
theorem w9_985 : (Jvm.Cond.selects "LorryArmsModel" ({ cls := "LorryArmsModel", name := "emptyIn", desc := "(I)I" } : Jvm.MethodName) ({ cls := "LorryArmsModel", name := "emptyIn", desc := "(I)I" } : Jvm.MethodName)) ∈ gw9 := gw9_in 985 (by decide +kernel) rfl
theorem w9_986 : (Jvm.Cond.code ({ cls := "LorryArmsModel", name := "emptyIn", desc := "(I)I" } : Jvm.MethodName) prog_5_method_60_code (3 : Nat) (Option.some Jvm.ClassFile.FieldType.int)) ∈ gw9 := gw9_in 986 (by decide +kernel) rfl
theorem w9_987 : (Jvm.Cond.methodLink "LorryArmsLaw" (162 : Nat) ({ cls := "LorryArmsModel", name := "throughIn", desc := "(II)I" } : Jvm.MethodName)) ∈ gw9 := gw9_in 987 (by decide +kernel) rfl
theorem w9_988 : (Jvm.Cond.instanceMethod ({ cls := "LorryArmsModel", name := "throughIn", desc := "(II)I" } : Jvm.MethodName)) ∈ gw9 := gw9_in 988 (by decide +kernel) rfl
theorem w9_989 : (Jvm.Cond.selects "LorryArmsModel" ({ cls := "LorryArmsModel", name := "throughIn", desc := "(II)I" } : Jvm.MethodName) ({ cls := "LorryArmsModel", name := "throughIn", desc := "(II)I" } : Jvm.MethodName)) ∈ gw9 := gw9_in 989 (by decide +kernel) rfl
theorem w9_990 : (Jvm.Cond.code ({ cls := "LorryArmsModel", name := "throughIn", desc := "(II)I" } : Jvm.MethodName) prog_5_method_62_code (3 : Nat) (Option.some Jvm.ClassFile.FieldType.int)) ∈ gw9 := gw9_in 990 (by decide +kernel) rfl
theorem w9_991 : (Jvm.Cond.methodLink "LorryArmsModel" (211 : Nat) ({ cls := "LorryArmsModel", name := "through", desc := "([III)I" } : Jvm.MethodName)) ∈ gw9 := gw9_in 991 (by decide +kernel) rfl
theorem w9_993 : (Jvm.Cond.instanceMethod ({ cls := "LorryArmsModel", name := "through", desc := "([III)I" } : Jvm.MethodName)) ∈ gw9 := gw9_in 993 (by decide +kernel) rfl
theorem w9_994 : (Jvm.Cond.code ({ cls := "LorryArmsModel", name := "through", desc := "([III)I" } : Jvm.MethodName) prog_5_method_61_code (7 : Nat) (Option.some Jvm.ClassFile.FieldType.int)) ∈ gw9 := gw9_in 994 (by decide +kernel) rfl
theorem w9_995 : (Jvm.Cond.methodLink "LorryArmsLaw" (165 : Nat) ({ cls := "LorryArmsModel", name := "bestLane", desc := "(I)I" } : Jvm.MethodName)) ∈ gw9 := gw9_in 995 (by decide +kernel) rfl
theorem w9_996 : (Jvm.Cond.instanceMethod ({ cls := "LorryArmsModel", name := "bestLane", desc := "(I)I" } : Jvm.MethodName)) ∈ gw9 := gw9_in 996 (by decide +kernel) rfl
theorem w9_997 : (Jvm.Cond.selects "LorryArmsModel" ({ cls := "LorryArmsModel", name := "bestLane", desc := "(I)I" } : Jvm.MethodName) ({ cls := "LorryArmsModel", name := "bestLane", desc := "(I)I" } : Jvm.MethodName)) ∈ gw9 := gw9_in 997 (by decide +kernel) rfl
theorem w9_998 : (Jvm.Cond.code ({ cls := "LorryArmsModel", name := "bestLane", desc := "(I)I" } : Jvm.MethodName) prog_5_method_63_code (7 : Nat) (Option.some Jvm.ClassFile.FieldType.int)) ∈ gw9 := gw9_in 998 (by decide +kernel) rfl
theorem w9_999 : (Jvm.Cond.methodLink "LorryArmsLaw" (168 : Nat) ({ cls := "LorryArmsModel", name := "coming", desc := "(II)I" } : Jvm.MethodName)) ∈ gw9 := gw9_in 999 (by decide +kernel) rfl
theorem w9_1000 : (Jvm.Cond.instanceMethod ({ cls := "LorryArmsModel", name := "coming", desc := "(II)I" } : Jvm.MethodName)) ∈ gw9 := gw9_in 1000 (by decide +kernel) rfl
theorem w9_1001 : (Jvm.Cond.selects "LorryArmsModel" ({ cls := "LorryArmsModel", name := "coming", desc := "(II)I" } : Jvm.MethodName) ({ cls := "LorryArmsModel", name := "coming", desc := "(II)I" } : Jvm.MethodName)) ∈ gw9 := gw9_in 1001 (by decide +kernel) rfl
theorem w9_1002 : (Jvm.Cond.code ({ cls := "LorryArmsModel", name := "coming", desc := "(II)I" } : Jvm.MethodName) prog_5_method_64_code (3 : Nat) (Option.some Jvm.ClassFile.FieldType.int)) ∈ gw9 := gw9_in 1002 (by decide +kernel) rfl
theorem w9_1003 : (Jvm.Cond.constantLong "LorryArmsModel" (214 : Nat) (400 : Int64)) ∈ gw9 := gw9_in 1003 (by decide +kernel) rfl
theorem w9_1004 : (Jvm.Cond.methodLink "LorryArmsLaw" (171 : Nat) ({ cls := "LorryArmsModel", name := "hitsIn", desc := "(I)I" } : Jvm.MethodName)) ∈ gw9 := gw9_in 1004 (by decide +kernel) rfl
theorem w9_1005 : (Jvm.Cond.instanceMethod ({ cls := "LorryArmsModel", name := "hitsIn", desc := "(I)I" } : Jvm.MethodName)) ∈ gw9 := gw9_in 1005 (by decide +kernel) rfl
theorem w9_1006 : (Jvm.Cond.selects "LorryArmsModel" ({ cls := "LorryArmsModel", name := "hitsIn", desc := "(I)I" } : Jvm.MethodName) ({ cls := "LorryArmsModel", name := "hitsIn", desc := "(I)I" } : Jvm.MethodName)) ∈ gw9 := gw9_in 1006 (by decide +kernel) rfl
theorem w9_1007 : (Jvm.Cond.code ({ cls := "LorryArmsModel", name := "hitsIn", desc := "(I)I" } : Jvm.MethodName) prog_5_method_65_code (3 : Nat) (Option.some Jvm.ClassFile.FieldType.int)) ∈ gw9 := gw9_in 1007 (by decide +kernel) rfl
theorem w9_1008 : (Jvm.Cond.methodLink "LorryArmsLaw" (177 : Nat) ({ cls := "LorryArmsModel", name := "runScript", desc := "(IJ)I" } : Jvm.MethodName)) ∈ gw9 := gw9_in 1008 (by decide +kernel) rfl
theorem w9_1009 : (Jvm.Cond.instanceMethod ({ cls := "LorryArmsModel", name := "runScript", desc := "(IJ)I" } : Jvm.MethodName)) ∈ gw9 := gw9_in 1009 (by decide +kernel) rfl
theorem w9_1010 : (Jvm.Cond.selects "LorryArmsModel" ({ cls := "LorryArmsModel", name := "runScript", desc := "(IJ)I" } : Jvm.MethodName) ({ cls := "LorryArmsModel", name := "runScript", desc := "(IJ)I" } : Jvm.MethodName)) ∈ gw9 := gw9_in 1010 (by decide +kernel) rfl
theorem w9_1011 : (Jvm.Cond.code ({ cls := "LorryArmsModel", name := "runScript", desc := "(IJ)I" } : Jvm.MethodName) prog_5_method_67_code (8 : Nat) (Option.some Jvm.ClassFile.FieldType.int)) ∈ gw9 := gw9_in 1011 (by decide +kernel) rfl
theorem w9_1012 : (Jvm.Cond.constantLong "LorryArmsModel" (216 : Nat) (100000 : Int64)) ∈ gw9 := gw9_in 1012 (by decide +kernel) rfl
theorem w9_1013 : (Jvm.Cond.constantLong "LorryArmsModel" (218 : Nat) (3 : Int64)) ∈ gw9 := gw9_in 1013 (by decide +kernel) rfl
theorem w9_1014 : (Jvm.Cond.methodLink "LorryArmsModel" (220 : Nat) ({ cls := "LorryArmsModel", name := "command", desc := "(II)Z" } : Jvm.MethodName)) ∈ gw9 := gw9_in 1014 (by decide +kernel) rfl
theorem w9_1016 : (Jvm.Cond.instanceMethod ({ cls := "LorryArmsModel", name := "command", desc := "(II)Z" } : Jvm.MethodName)) ∈ gw9 := gw9_in 1016 (by decide +kernel) rfl
theorem w9_1017 : (Jvm.Cond.code ({ cls := "LorryArmsModel", name := "command", desc := "(II)Z" } : Jvm.MethodName) prog_5_method_66_code (7 : Nat) (Option.some Jvm.ClassFile.FieldType.boolean)) ∈ gw9 := gw9_in 1017 (by decide +kernel) rfl
theorem w9_1018 : (Jvm.Cond.methodLink "LorryArmsLaw" (181 : Nat) ({ cls := "LorryArmsModel", name := "simulate", desc := "(JI)I" } : Jvm.MethodName)) ∈ gw9 := gw9_in 1018 (by decide +kernel) rfl
theorem w9_1019 : (Jvm.Cond.instanceMethod ({ cls := "LorryArmsModel", name := "simulate", desc := "(JI)I" } : Jvm.MethodName)) ∈ gw9 := gw9_in 1019 (by decide +kernel) rfl
theorem w9_1020 : (Jvm.Cond.selects "LorryArmsModel" ({ cls := "LorryArmsModel", name := "simulate", desc := "(JI)I" } : Jvm.MethodName) ({ cls := "LorryArmsModel", name := "simulate", desc := "(JI)I" } : Jvm.MethodName)) ∈ gw9 := gw9_in 1020 (by decide +kernel) rfl
theorem w9_1021 : (Jvm.Cond.code ({ cls := "LorryArmsModel", name := "simulate", desc := "(JI)I" } : Jvm.MethodName) prog_5_method_69_code (7 : Nat) (Option.some Jvm.ClassFile.FieldType.int)) ∈ gw9 := gw9_in 1021 (by decide +kernel) rfl
theorem w9_1022 : (Jvm.Cond.constantLong "LorryArmsModel" (223 : Nat) (6364136223846793005 : Int64)) ∈ gw9 := gw9_in 1022 (by decide +kernel) rfl
theorem w9_1023 : (Jvm.Cond.constantLong "LorryArmsModel" (225 : Nat) (1442695040888963407 : Int64)) ∈ gw9 := gw9_in 1023 (by decide +kernel) rfl
theorem w9_1024 : (Jvm.Cond.methodLink "LorryArmsModel" (227 : Nat) ({ cls := "LorryArmsModel", name := "turn", desc := "(I)V" } : Jvm.MethodName)) ∈ gw9 := gw9_in 1024 (by decide +kernel) rfl
theorem w9_1026 : (Jvm.Cond.instanceMethod ({ cls := "LorryArmsModel", name := "turn", desc := "(I)V" } : Jvm.MethodName)) ∈ gw9 := gw9_in 1026 (by decide +kernel) rfl
theorem w9_1027 : (Jvm.Cond.code ({ cls := "LorryArmsModel", name := "turn", desc := "(I)V" } : Jvm.MethodName) prog_5_method_68_code (5 : Nat) (Option.none : Option Jvm.ClassFile.FieldType)) ∈ gw9 := gw9_in 1027 (by decide +kernel) rfl
theorem w9_1028 : (Jvm.Cond.methodLink "LorryArmsLaw" (184 : Nat) ({ cls := "LorryArmsModel", name := "save", desc := "(I)I" } : Jvm.MethodName)) ∈ gw9 := gw9_in 1028 (by decide +kernel) rfl
theorem w9_1029 : (Jvm.Cond.instanceMethod ({ cls := "LorryArmsModel", name := "save", desc := "(I)I" } : Jvm.MethodName)) ∈ gw9 := gw9_in 1029 (by decide +kernel) rfl
theorem w9_1030 : (Jvm.Cond.selects "LorryArmsModel" ({ cls := "LorryArmsModel", name := "save", desc := "(I)I" } : Jvm.MethodName) ({ cls := "LorryArmsModel", name := "save", desc := "(I)I" } : Jvm.MethodName)) ∈ gw9 := gw9_in 1030 (by decide +kernel) rfl
theorem w9_1031 : (Jvm.Cond.code ({ cls := "LorryArmsModel", name := "save", desc := "(I)I" } : Jvm.MethodName) prog_5_method_70_code (2 : Nat) (Option.some Jvm.ClassFile.FieldType.int)) ∈ gw9 := gw9_in 1031 (by decide +kernel) rfl
theorem w9_1032 : (Jvm.Cond.methodLink "LorryArmsLaw" (187 : Nat) ({ cls := "LorryArmsModel", name := "restore", desc := "(I)I" } : Jvm.MethodName)) ∈ gw9 := gw9_in 1032 (by decide +kernel) rfl
theorem w9_1033 : (Jvm.Cond.instanceMethod ({ cls := "LorryArmsModel", name := "restore", desc := "(I)I" } : Jvm.MethodName)) ∈ gw9 := gw9_in 1033 (by decide +kernel) rfl
theorem w9_1034 : (Jvm.Cond.selects "LorryArmsModel" ({ cls := "LorryArmsModel", name := "restore", desc := "(I)I" } : Jvm.MethodName) ({ cls := "LorryArmsModel", name := "restore", desc := "(I)I" } : Jvm.MethodName)) ∈ gw9 := gw9_in 1034 (by decide +kernel) rfl
theorem w9_1035 : (Jvm.Cond.code ({ cls := "LorryArmsModel", name := "restore", desc := "(I)I" } : Jvm.MethodName) prog_5_method_71_code (2 : Nat) (Option.some Jvm.ClassFile.FieldType.int)) ∈ gw9 := gw9_in 1035 (by decide +kernel) rfl
theorem w9_1036 : (Jvm.Cond.constantLong "LorryArmsLaw" (172 : Nat) (4294967295 : Int64)) ∈ gw9 := gw9_in 1036 (by decide +kernel) rfl
