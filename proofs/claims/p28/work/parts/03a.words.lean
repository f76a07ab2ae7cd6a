theorem ne9 {x c : Int32} {k : Int} (h : ¬ x = c) (hc : c.toInt = k) : x.toInt ≠ k := fun q => h (Int32.toInt_inj.mp (q.trans hc.symm))
theorem inG_X0 : ∀ w ∈ u_ws RX0 TX0 4, w ∈ gw9 := by decide +kernel
theorem inG_X1 : ∀ w ∈ u_ws RX1 TX1 17, w ∈ gw9 := by decide +kernel
theorem inG_X2 : ∀ w ∈ u_ws RX2 TX2 9, w ∈ gw9 := by decide +kernel
theorem w9_1 : Cond.selects "LorryArms" ⟨"LorryArms", "signAt", "(I)I"⟩ ⟨"LorryArms", "signAt", "(I)I"⟩ ∈ gw9 := gw9_in 1 (by decide +kernel) rfl
theorem w9_2 : Cond.selects "LorryArms" ⟨"LorryArms", "wrongSignOf", "(I)I"⟩ ⟨"LorryArms", "wrongSignOf", "(I)I"⟩ ∈ gw9 := gw9_in 2 (by decide +kernel) rfl
theorem w9_3 : Cond.selects "LorryArms" ⟨"LorryArms", "commandLength", "(I)I"⟩ ⟨"LorryArms", "commandLength", "(I)I"⟩ ∈ gw9 := gw9_in 3 (by decide +kernel) rfl
theorem w9_4 : Cond.selects "LorryArms" ⟨"LorryArms", "forgetAll", "()V"⟩ ⟨"LorryArms", "forgetAll", "()V"⟩ ∈ gw9 := gw9_in 4 (by decide +kernel) rfl
theorem w9_5 : Cond.selects "LorryArms" ⟨"LorryArms", "doCommand", "(I)Z"⟩ ⟨"LorryArms", "doCommand", "(I)Z"⟩ ∈ gw9 := gw9_in 5 (by decide +kernel) rfl
theorem w9_6 : Cond.selects "LorryArms" ⟨"LorryArms", "doArrival", "(I)Z"⟩ ⟨"LorryArms", "doArrival", "(I)Z"⟩ ∈ gw9 := gw9_in 6 (by decide +kernel) rfl
theorem w9_7 : Cond.selects "LorryArms" ⟨"LorryArms", "digitAt", "(I)I"⟩ ⟨"LorryArms", "digitAt", "(I)I"⟩ ∈ gw9 := gw9_in 7 (by decide +kernel) rfl
theorem w9_8 : Cond.selects "LorryArms" ⟨"LorryArms", "twoDigitsAt", "(I)I"⟩ ⟨"LorryArms", "twoDigitsAt", "(I)I"⟩ ∈ gw9 := gw9_in 8 (by decide +kernel) rfl
theorem w9_9 : Cond.selects "LorryArms$Lane" ⟨"LorryArms$Lane", "lastCell", "(I)I"⟩ ⟨"LorryArms$Lane", "lastCell", "(I)I"⟩ ∈ gw9 := gw9_in 9 (by decide +kernel) rfl
theorem w9_10 : Cond.selects "LorryArms$Lane" ⟨"LorryArms$Lane", "isUnderArm", "()Z"⟩ ⟨"LorryArms$Lane", "isUnderArm", "()Z"⟩ ∈ gw9 := gw9_in 10 (by decide +kernel) rfl
theorem w9_11 : Cond.selects "LorryArms$Lane" ⟨"LorryArms$Lane", "moveVehicles", "()V"⟩ ⟨"LorryArms$Lane", "moveVehicles", "()V"⟩ ∈ gw9 := gw9_in 11 (by decide +kernel) rfl
theorem w9_12 : Cond.selects "LorryArms$Lane" ⟨"LorryArms$Lane", "canMove", "(I)Z"⟩ ⟨"LorryArms$Lane", "canMove", "(I)Z"⟩ ∈ gw9 := gw9_in 12 (by decide +kernel) rfl
theorem w9_13 : Cond.selects "LorryArms$Lane" ⟨"LorryArms$Lane", "removeFirst", "()V"⟩ ⟨"LorryArms$Lane", "removeFirst", "()V"⟩ ∈ gw9 := gw9_in 13 (by decide +kernel) rfl
theorem w9_14 : Cond.selects "LorryArms$Lane" ⟨"LorryArms$Lane", "copyVehicle", "(LLorryArms$Lane;II)V"⟩ ⟨"LorryArms$Lane", "copyVehicle", "(LLorryArms$Lane;II)V"⟩ ∈ gw9 := gw9_in 14 (by decide +kernel) rfl
theorem w9_15 : Cond.selects "LorryArms$Lane" ⟨"LorryArms$Lane", "checkTicket", "(III)V"⟩ ⟨"LorryArms$Lane", "checkTicket", "(III)V"⟩ ∈ gw9 := gw9_in 15 (by decide +kernel) rfl
theorem w9_16 : Cond.selects "LorryArms$Lane" ⟨"LorryArms$Lane", "vehicleInCheck", "()I"⟩ ⟨"LorryArms$Lane", "vehicleInCheck", "()I"⟩ ∈ gw9 := gw9_in 16 (by decide +kernel) rfl
theorem w9_17 : Cond.selects "LorryArms$Lane" ⟨"LorryArms$Lane", "letVehicleWaits", "()Z"⟩ ⟨"LorryArms$Lane", "letVehicleWaits", "()Z"⟩ ∈ gw9 := gw9_in 17 (by decide +kernel) rfl
theorem w9_18 : Cond.selects "LorryArms$Lane" ⟨"LorryArms$Lane", "isLoopCovered", "()Z"⟩ ⟨"LorryArms$Lane", "isLoopCovered", "()Z"⟩ ∈ gw9 := gw9_in 18 (by decide +kernel) rfl
theorem w9_19 : Cond.selects "LorryArms$Lane" ⟨"LorryArms$Lane", "moveArm", "(Z)V"⟩ ⟨"LorryArms$Lane", "moveArm", "(Z)V"⟩ ∈ gw9 := gw9_in 19 (by decide +kernel) rfl
theorem w9_20 : Cond.selects "LorryArms$Lane" ⟨"LorryArms$Lane", "hitIfUnderArm", "()V"⟩ ⟨"LorryArms$Lane", "hitIfUnderArm", "()V"⟩ ∈ gw9 := gw9_in 20 (by decide +kernel) rfl
theorem w9_21 : Cond.selects "LorryArms$Lane" ⟨"LorryArms$Lane", "countThrough", "()V"⟩ ⟨"LorryArms$Lane", "countThrough", "()V"⟩ ∈ gw9 := gw9_in 21 (by decide +kernel) rfl
theorem w9_22 : Cond.selects "LorryArms" ⟨"LorryArms", "checkLane", "(I)V"⟩ ⟨"LorryArms", "checkLane", "(I)V"⟩ ∈ gw9 := gw9_in 22 (by decide +kernel) rfl
theorem w9_23 : Cond.selects "LorryArms$Lane" ⟨"LorryArms$Lane", "countUnlet", "()I"⟩ ⟨"LorryArms$Lane", "countUnlet", "()I"⟩ ∈ gw9 := gw9_in 23 (by decide +kernel) rfl
theorem w9_24 : Cond.selects "LorryArms" ⟨"LorryArms", "checkVehicle", "(II)V"⟩ ⟨"LorryArms", "checkVehicle", "(II)V"⟩ ∈ gw9 := gw9_in 24 (by decide +kernel) rfl
theorem w9_25 : Cond.selects "LorryArms" ⟨"LorryArms", "remember", "()V"⟩ ⟨"LorryArms", "remember", "()V"⟩ ∈ gw9 := gw9_in 25 (by decide +kernel) rfl
theorem w9_26 : Cond.selects "LorryArms" ⟨"LorryArms", "copyThroughIn", "(II)I"⟩ ⟨"LorryArms", "copyThroughIn", "(II)I"⟩ ∈ gw9 := gw9_in 26 (by decide +kernel) rfl
theorem w9_27 : Cond.selects "LorryArms" ⟨"LorryArms", "doGroup", "(I)Z"⟩ ⟨"LorryArms", "doGroup", "(I)Z"⟩ ∈ gw9 := gw9_in 27 (by decide +kernel) rfl
theorem w9_28 : Cond.selects "LorryArms" ⟨"LorryArms", "doTurn", "(I)V"⟩ ⟨"LorryArms", "doTurn", "(I)V"⟩ ∈ gw9 := gw9_in 28 (by decide +kernel) rfl
theorem w9_29 : (Jvm.Cond.initialized "LorryArmsLaw") ∈ gw9 := gw9_in 29 (by decide +kernel) rfl
theorem w9_30 : (Jvm.Cond.initialized "LorryArms") ∈ gw9 := gw9_in 30 (by decide +kernel) rfl
theorem w9_31 : (Jvm.Cond.initialized "LorryArms$Gate") ∈ gw9 := gw9_in 31 (by decide +kernel) rfl
theorem w9_32 : (Jvm.Cond.initialized "LorryArms$Lane") ∈ gw9 := gw9_in 32 (by decide +kernel) rfl
theorem w9_36 : (Jvm.Cond.initialized "java/lang/IllegalArgumentException") ∈ gw9 := gw9_in 36 (by decide +kernel) rfl
theorem w9_37 : (Jvm.Cond.initialized "java/lang/IllegalStateException") ∈ gw9 := gw9_in 37 (by decide +kernel) rfl
theorem w9_38 : (Jvm.Cond.initialized "java/lang/Math") ∈ gw9 := gw9_in 38 (by decide +kernel) rfl
theorem w9_39 : (Jvm.Cond.initialized "java/lang/IndexOutOfBoundsException") ∈ gw9 := gw9_in 39 (by decide +kernel) rfl
theorem w9_40 : (Jvm.Cond.initialized "java/lang/System") ∈ gw9 := gw9_in 40 (by decide +kernel) rfl
theorem w9_63 : (Jvm.Cond.instanceMethod ({ cls := "LorryArms$Lane", name := "clear", desc := "()V" } : Jvm.MethodName)) ∈ gw9 := gw9_in 63 (by decide +kernel) rfl
theorem w9_64 : (Jvm.Cond.selects "LorryArms$Lane" ({ cls := "LorryArms$Lane", name := "clear", desc := "()V" } : Jvm.MethodName) ({ cls := "LorryArms$Lane", name := "clear", desc := "()V" } : Jvm.MethodName)) ∈ gw9 := gw9_in 64 (by decide +kernel) rfl
theorem w9_65 : (Jvm.Cond.code ({ cls := "LorryArms$Lane", name := "clear", desc := "()V" } : Jvm.MethodName) prog_3_method_2_code (1 : Nat) (Option.none : Option Jvm.ClassFile.FieldType)) ∈ gw9 := gw9_in 65 (by decide +kernel) rfl
theorem w9_66 : (Jvm.Cond.fieldLink "LorryArms$Lane" (9 : Nat) "LorryArms$Lane" "lengths" "[I") ∈ gw9 := gw9_in 66 (by decide +kernel) rfl
theorem w9_67 : (Jvm.Cond.fieldLink "LorryArms$Lane" (15 : Nat) "LorryArms$Lane" "fronts" "[I") ∈ gw9 := gw9_in 67 (by decide +kernel) rfl
theorem w9_68 : (Jvm.Cond.fieldLink "LorryArms$Lane" (18 : Nat) "LorryArms$Lane" "lost" "[Z") ∈ gw9 := gw9_in 68 (by decide +kernel) rfl
theorem w9_69 : (Jvm.Cond.fieldLink "LorryArms$Lane" (22 : Nat) "LorryArms$Lane" "follower" "[Z") ∈ gw9 := gw9_in 69 (by decide +kernel) rfl
theorem w9_70 : (Jvm.Cond.fieldLink "LorryArms$Lane" (25 : Nat) "LorryArms$Lane" "let" "[Z") ∈ gw9 := gw9_in 70 (by decide +kernel) rfl
theorem w9_71 : (Jvm.Cond.fieldLink "LorryArms$Lane" (31 : Nat) "LorryArms$Lane" "vehicles" "I") ∈ gw9 := gw9_in 71 (by decide +kernel) rfl
theorem w9_72 : (Jvm.Cond.fieldLink "LorryArms" (195 : Nat) "LorryArms$Lane" "vehicles" "I") ∈ gw9 := gw9_in 72 (by decide +kernel) rfl
theorem w9_73 : (Jvm.Cond.fieldLink "LorryArms$Lane" (35 : Nat) "LorryArms$Lane" "height" "I") ∈ gw9 := gw9_in 73 (by decide +kernel) rfl
theorem w9_74 : (Jvm.Cond.fieldLink "LorryArms$Gate" (74 : Nat) "LorryArms$Lane" "height" "I") ∈ gw9 := gw9_in 74 (by decide +kernel) rfl
theorem w9_75 : (Jvm.Cond.fieldLink "LorryArms" (205 : Nat) "LorryArms$Lane" "height" "I") ∈ gw9 := gw9_in 75 (by decide +kernel) rfl
theorem w9_76 : (Jvm.Cond.fieldLink "LorryArms$Lane" (38 : Nat) "LorryArms$Lane" "hold" "I") ∈ gw9 := gw9_in 76 (by decide +kernel) rfl
theorem w9_77 : (Jvm.Cond.fieldLink "LorryArms$Lane" (41 : Nat) "LorryArms$Lane" "learned" "I") ∈ gw9 := gw9_in 77 (by decide +kernel) rfl
theorem w9_78 : (Jvm.Cond.fieldLink "LorryArms$Lane" (44 : Nat) "LorryArms$Lane" "checkedFor" "I") ∈ gw9 := gw9_in 78 (by decide +kernel) rfl
theorem w9_79 : (Jvm.Cond.fieldLink "LorryArms$Lane" (47 : Nat) "LorryArms$Lane" "loopBroken" "Z") ∈ gw9 := gw9_in 79 (by decide +kernel) rfl
theorem w9_80 : (Jvm.Cond.fieldLink "LorryArms$Gate" (51 : Nat) "LorryArms$Lane" "loopBroken" "Z") ∈ gw9 := gw9_in 80 (by decide +kernel) rfl
theorem w9_81 : (Jvm.Cond.fieldLink "LorryArms$Lane" (51 : Nat) "LorryArms$Lane" "armBroken" "Z") ∈ gw9 := gw9_in 81 (by decide +kernel) rfl
theorem w9_82 : (Jvm.Cond.fieldLink "LorryArms$Gate" (59 : Nat) "LorryArms$Lane" "armBroken" "Z") ∈ gw9 := gw9_in 82 (by decide +kernel) rfl
theorem w9_83 : (Jvm.Cond.fieldLink "LorryArms$Lane" (54 : Nat) "LorryArms$Lane" "passed" "I") ∈ gw9 := gw9_in 83 (by decide +kernel) rfl
theorem w9_84 : (Jvm.Cond.fieldLink "LorryArms" (239 : Nat) "LorryArms$Lane" "passed" "I") ∈ gw9 := gw9_in 84 (by decide +kernel) rfl
theorem w9_85 : (Jvm.Cond.fieldLink "LorryArms$Lane" (57 : Nat) "LorryArms$Lane" "letThrough" "I") ∈ gw9 := gw9_in 85 (by decide +kernel) rfl
theorem w9_86 : (Jvm.Cond.fieldLink "LorryArms$Lane" (60 : Nat) "LorryArms$Lane" "slipped" "I") ∈ gw9 := gw9_in 86 (by decide +kernel) rfl
theorem w9_87 : (Jvm.Cond.fieldLink "LorryArms$Lane" (63 : Nat) "LorryArms$Lane" "hits" "I") ∈ gw9 := gw9_in 87 (by decide +kernel) rfl
theorem w9_88 : (Jvm.Cond.fieldLink "LorryArms" (236 : Nat) "LorryArms$Lane" "hits" "I") ∈ gw9 := gw9_in 88 (by decide +kernel) rfl
theorem w9_89 : (Jvm.Cond.fieldLink "LorryArms$Lane" (66 : Nat) "LorryArms$Lane" "lostLet" "I") ∈ gw9 := gw9_in 89 (by decide +kernel) rfl
theorem w9_129 : (Jvm.Cond.instanceMethod ({ cls := "LorryArms$Gate", name := "clear", desc := "()V" } : Jvm.MethodName)) ∈ gw9 := gw9_in 129 (by decide +kernel) rfl
theorem w9_130 : (Jvm.Cond.selects "LorryArms$Gate" ({ cls := "LorryArms$Gate", name := "clear", desc := "()V" } : Jvm.MethodName) ({ cls := "LorryArms$Gate", name := "clear", desc := "()V" } : Jvm.MethodName)) ∈ gw9 := gw9_in 130 (by decide +kernel) rfl
theorem w9_131 : (Jvm.Cond.code ({ cls := "LorryArms$Gate", name := "clear", desc := "()V" } : Jvm.MethodName) prog_2_method_2_code (1 : Nat) (Option.none : Option Jvm.ClassFile.FieldType)) ∈ gw9 := gw9_in 131 (by decide +kernel) rfl
theorem w9_132 : (Jvm.Cond.fieldLink "LorryArms$Gate" (11 : Nat) "LorryArms$Gate" "lanes" "[LLorryArms$Lane;") ∈ gw9 := gw9_in 132 (by decide +kernel) rfl
theorem w9_133 : (Jvm.Cond.fieldLink "LorryArms" (144 : Nat) "LorryArms$Gate" "lanes" "[LLorryArms$Lane;") ∈ gw9 := gw9_in 133 (by decide +kernel) rfl
theorem w9_134 : (Jvm.Cond.fieldLink "LorryArms$Gate" (17 : Nat) "LorryArms$Gate" "settings" "[I") ∈ gw9 := gw9_in 134 (by decide +kernel) rfl
theorem w9_135 : (Jvm.Cond.fieldLink "LorryArms" (168 : Nat) "LorryArms$Gate" "settings" "[I") ∈ gw9 := gw9_in 135 (by decide +kernel) rfl
theorem w9_136 : (Jvm.Cond.fieldLink "LorryArms$Gate" (25 : Nat) "LorryArms$Gate" "laneCount" "I") ∈ gw9 := gw9_in 136 (by decide +kernel) rfl
theorem w9_137 : (Jvm.Cond.fieldLink "LorryArms" (129 : Nat) "LorryArms$Gate" "laneCount" "I") ∈ gw9 := gw9_in 137 (by decide +kernel) rfl
theorem w9_138 : (Jvm.Cond.fieldLink "LorryArms$Gate" (29 : Nat) "LorryArms$Gate" "ticks" "I") ∈ gw9 := gw9_in 138 (by decide +kernel) rfl
theorem w9_139 : (Jvm.Cond.fieldLink "LorryArms" (132 : Nat) "LorryArms$Gate" "ticks" "I") ∈ gw9 := gw9_in 139 (by decide +kernel) rfl
theorem w9_150 : (Jvm.Cond.fieldLink "LorryArms" (9 : Nat) "LorryArms" "text" "[C") ∈ gw9 := gw9_in 150 (by decide +kernel) rfl
theorem w9_151 : (Jvm.Cond.fieldLink "LorryArms" (13 : Nat) "LorryArms" "textLength" "I") ∈ gw9 := gw9_in 151 (by decide +kernel) rfl
theorem w9_152 : (Jvm.Cond.fieldLink "LorryArms" (20 : Nat) "LorryArms" "present" "LLorryArms$Gate;") ∈ gw9 := gw9_in 152 (by decide +kernel) rfl
theorem w9_153 : (Jvm.Cond.fieldLink "LorryArms" (24 : Nat) "LorryArms" "copy" "LLorryArms$Gate;") ∈ gw9 := gw9_in 153 (by decide +kernel) rfl
theorem w9_154 : (Jvm.Cond.fieldLink "LorryArms" (27 : Nat) "LorryArms" "remembered" "[LLorryArms$Gate;") ∈ gw9 := gw9_in 154 (by decide +kernel) rfl
theorem w9_155 : (Jvm.Cond.fieldLink "LorryArms" (31 : Nat) "LorryArms" "oldest" "I") ∈ gw9 := gw9_in 155 (by decide +kernel) rfl
theorem w9_156 : (Jvm.Cond.fieldLink "LorryArms" (34 : Nat) "LorryArms" "rememberedCount" "I") ∈ gw9 := gw9_in 156 (by decide +kernel) rfl
theorem w9_157 : (Jvm.Cond.fieldLink "LorryArms" (37 : Nat) "LorryArms" "slots" "[LLorryArms$Gate;") ∈ gw9 := gw9_in 157 (by decide +kernel) rfl
theorem w9_158 : (Jvm.Cond.fieldLink "LorryArms" (40 : Nat) "LorryArms" "saved" "[Z") ∈ gw9 := gw9_in 158 (by decide +kernel) rfl
theorem w9_178 : (Jvm.Cond.methodLink "LorryArmsLaw" (160 : Nat) ({ cls := "LorryArmsLaw", name := "call", desc := "(LLorryArms;IIII)I" } : Jvm.MethodName)) ∈ gw9 := gw9_in 178 (by decide +kernel) rfl
theorem w9_179 : (Jvm.Cond.static ({ cls := "LorryArmsLaw", name := "call", desc := "(LLorryArms;IIII)I" } : Jvm.MethodName)) ∈ gw9 := gw9_in 179 (by decide +kernel) rfl
theorem w9_180 : (Jvm.Cond.code ({ cls := "LorryArmsLaw", name := "call", desc := "(LLorryArms;IIII)I" } : Jvm.MethodName) method_25_code (5 : Nat) (Option.some Jvm.ClassFile.FieldType.int)) ∈ gw9 := gw9_in 180 (by decide +kernel) rfl
theorem w9_181 : (Jvm.Cond.methodLink "LorryArmsLaw" (95 : Nat) ({ cls := "LorryArmsLaw", name := "tryAppend", desc := "(LLorryArms;I)I" } : Jvm.MethodName)) ∈ gw9 := gw9_in 181 (by decide +kernel) rfl
theorem w9_182 : (Jvm.Cond.static ({ cls := "LorryArmsLaw", name := "tryAppend", desc := "(LLorryArms;I)I" } : Jvm.MethodName)) ∈ gw9 := gw9_in 182 (by decide +kernel) rfl
theorem w9_183 : (Jvm.Cond.codeWith ({ cls := "LorryArmsLaw", name := "tryAppend", desc := "(LLorryArms;I)I" } : Jvm.MethodName) method_6_code (3 : Nat) (Option.some Jvm.ClassFile.FieldType.int) [((0 : Nat), (5 : Nat), (6 : Nat), (16 : Nat)), ((0 : Nat), (5 : Nat), (10 : Nat), (19 : Nat))]) ∈ gw9 := gw9_in 183 (by decide +kernel) rfl
theorem w9_184 : (Jvm.Cond.classLink "LorryArmsLaw" (16 : Nat) "java/lang/IllegalArgumentException") ∈ gw9 := gw9_in 184 (by decide +kernel) rfl
theorem w9_185 : (Jvm.Cond.classLink "LorryArmsLaw" (19 : Nat) "java/lang/IllegalStateException") ∈ gw9 := gw9_in 185 (by decide +kernel) rfl
theorem w9_186 : (Jvm.Cond.methodLink "LorryArmsLaw" (34 : Nat) ({ cls := "LorryArms", name := "append", desc := "(I)I" } : Jvm.MethodName)) ∈ gw9 := gw9_in 186 (by decide +kernel) rfl
theorem w9_187 : (Jvm.Cond.instanceMethod ({ cls := "LorryArms", name := "append", desc := "(I)I" } : Jvm.MethodName)) ∈ gw9 := gw9_in 187 (by decide +kernel) rfl
theorem w9_188 : (Jvm.Cond.selects "LorryArms" ({ cls := "LorryArms", name := "append", desc := "(I)I" } : Jvm.MethodName) ({ cls := "LorryArms", name := "append", desc := "(I)I" } : Jvm.MethodName)) ∈ gw9 := gw9_in 188 (by decide +kernel) rfl
theorem w9_189 : (Jvm.Cond.code ({ cls := "LorryArms", name := "append", desc := "(I)I" } : Jvm.MethodName) prog_1_method_2_code (2 : Nat) (Option.some Jvm.ClassFile.FieldType.int)) ∈ gw9 := gw9_in 189 (by decide +kernel) rfl
theorem w9_190 : (Jvm.Cond.classLink "LorryArms" (44 : Nat) "java/lang/IllegalArgumentException") ∈ gw9 := gw9_in 190 (by decide +kernel) rfl
theorem w9_258 : (Jvm.Cond.classLink "LorryArms" (51 : Nat) "java/lang/IllegalStateException") ∈ gw9 := gw9_in 258 (by decide +kernel) rfl
theorem w9_274 : (Jvm.Cond.constant "LorryArmsLaw" (18 : Nat) (-9999002 : Int32)) ∈ gw9 := gw9_in 274 (by decide +kernel) rfl
theorem w9_275 : (Jvm.Cond.constant "LorryArmsLaw" (21 : Nat) (-9999003 : Int32)) ∈ gw9 := gw9_in 275 (by decide +kernel) rfl
theorem w9_276 : (Jvm.Cond.methodLink "LorryArmsLaw" (101 : Nat) ({ cls := "LorryArmsLaw", name := "tryLoad", desc := "(LLorryArms;)I" } : Jvm.MethodName)) ∈ gw9 := gw9_in 276 (by decide +kernel) rfl
theorem w9_277 : (Jvm.Cond.static ({ cls := "LorryArmsLaw", name := "tryLoad", desc := "(LLorryArms;)I" } : Jvm.MethodName)) ∈ gw9 := gw9_in 277 (by decide +kernel) rfl
theorem w9_278 : (Jvm.Cond.codeWith ({ cls := "LorryArmsLaw", name := "tryLoad", desc := "(LLorryArms;)I" } : Jvm.MethodName) method_7_code (2 : Nat) (Option.some Jvm.ClassFile.FieldType.int) [((0 : Nat), (4 : Nat), (5 : Nat), (19 : Nat))]) ∈ gw9 := gw9_in 278 (by decide +kernel) rfl
theorem w9_279 : (Jvm.Cond.methodLink "LorryArmsLaw" (38 : Nat) ({ cls := "LorryArms", name := "load", desc := "()I" } : Jvm.MethodName)) ∈ gw9 := gw9_in 279 (by decide +kernel) rfl
theorem w9_280 : (Jvm.Cond.instanceMethod ({ cls := "LorryArms", name := "load", desc := "()I" } : Jvm.MethodName)) ∈ gw9 := gw9_in 280 (by decide +kernel) rfl
theorem w9_281 : (Jvm.Cond.selects "LorryArms" ({ cls := "LorryArms", name := "load", desc := "()I" } : Jvm.MethodName) ({ cls := "LorryArms", name := "load", desc := "()I" } : Jvm.MethodName)) ∈ gw9 := gw9_in 281 (by decide +kernel) rfl
theorem w9_282 : (Jvm.Cond.code ({ cls := "LorryArms", name := "load", desc := "()I" } : Jvm.MethodName) prog_1_method_5_code (4 : Nat) (Option.some Jvm.ClassFile.FieldType.int)) ∈ gw9 := gw9_in 282 (by decide +kernel) rfl
theorem w9_283 : (Jvm.Cond.methodLink "LorryArms" (66 : Nat) ({ cls := "LorryArms", name := "errorPosition", desc := "()I" } : Jvm.MethodName)) ∈ gw9 := gw9_in 283 (by decide +kernel) rfl
theorem w9_284 : (Jvm.Cond.instanceMethod ({ cls := "LorryArms", name := "errorPosition", desc := "()I" } : Jvm.MethodName)) ∈ gw9 := gw9_in 284 (by decide +kernel) rfl
theorem w9_285 : (Jvm.Cond.selects "LorryArms" ({ cls := "LorryArms", name := "errorPosition", desc := "()I" } : Jvm.MethodName) ({ cls := "LorryArms", name := "errorPosition", desc := "()I" } : Jvm.MethodName)) ∈ gw9 := gw9_in 285 (by decide +kernel) rfl
theorem w9_286 : (Jvm.Cond.code ({ cls := "LorryArms", name := "errorPosition", desc := "()I" } : Jvm.MethodName) prog_1_method_4_code (4 : Nat) (Option.some Jvm.ClassFile.FieldType.int)) ∈ gw9 := gw9_in 286 (by decide +kernel) rfl
theorem w9_287 : (Jvm.Cond.methodLink "LorryArms" (56 : Nat) ({ cls := "LorryArms", name := "signAt", desc := "(I)I" } : Jvm.MethodName)) ∈ gw9 := gw9_in 287 (by decide +kernel) rfl
theorem w9_289 : (Jvm.Cond.instanceMethod ({ cls := "LorryArms", name := "signAt", desc := "(I)I" } : Jvm.MethodName)) ∈ gw9 := gw9_in 289 (by decide +kernel) rfl
theorem w9_290 : (Jvm.Cond.code ({ cls := "LorryArms", name := "signAt", desc := "(I)I" } : Jvm.MethodName) prog_1_method_6_code (2 : Nat) (Option.some Jvm.ClassFile.FieldType.int)) ∈ gw9 := gw9_in 290 (by decide +kernel) rfl
theorem w9_291 : (Jvm.Cond.methodLink "LorryArms" (60 : Nat) ({ cls := "LorryArms", name := "wrongSignOf", desc := "(I)I" } : Jvm.MethodName)) ∈ gw9 := gw9_in 291 (by decide +kernel) rfl
theorem w9_293 : (Jvm.Cond.instanceMethod ({ cls := "LorryArms", name := "wrongSignOf", desc := "(I)I" } : Jvm.MethodName)) ∈ gw9 := gw9_in 293 (by decide +kernel) rfl
theorem w9_294 : (Jvm.Cond.code ({ cls := "LorryArms", name := "wrongSignOf", desc := "(I)I" } : Jvm.MethodName) prog_1_method_9_code (5 : Nat) (Option.some Jvm.ClassFile.FieldType.int)) ∈ gw9 := gw9_in 294 (by decide +kernel) rfl
theorem w9_295 : (Jvm.Cond.methodLink "LorryArms" (85 : Nat) ({ cls := "LorryArms", name := "fixedLength", desc := "(I)I" } : Jvm.MethodName)) ∈ gw9 := gw9_in 295 (by decide +kernel) rfl
theorem w9_296 : (Jvm.Cond.static ({ cls := "LorryArms", name := "fixedLength", desc := "(I)I" } : Jvm.MethodName)) ∈ gw9 := gw9_in 296 (by decide +kernel) rfl
theorem w9_297 : (Jvm.Cond.code ({ cls := "LorryArms", name := "fixedLength", desc := "(I)I" } : Jvm.MethodName) prog_1_method_10_code (1 : Nat) (Option.some Jvm.ClassFile.FieldType.int)) ∈ gw9 := gw9_in 297 (by decide +kernel) rfl
theorem w9_298 : (Jvm.Cond.methodLink "LorryArms" (88 : Nat) ({ cls := "LorryArms", name := "isAllowed", desc := "(IIII)Z" } : Jvm.MethodName)) ∈ gw9 := gw9_in 298 (by decide +kernel) rfl
theorem w9_299 : (Jvm.Cond.static ({ cls := "LorryArms", name := "isAllowed", desc := "(IIII)Z" } : Jvm.MethodName)) ∈ gw9 := gw9_in 299 (by decide +kernel) rfl
theorem w9_300 : (Jvm.Cond.code ({ cls := "LorryArms", name := "isAllowed", desc := "(IIII)Z" } : Jvm.MethodName) prog_1_method_11_code (4 : Nat) (Option.some Jvm.ClassFile.FieldType.boolean)) ∈ gw9 := gw9_in 300 (by decide +kernel) rfl
theorem w9_301 : (Jvm.Cond.methodLink "LorryArms" (92 : Nat) ({ cls := "LorryArms", name := "isBetween", desc := "(III)Z" } : Jvm.MethodName)) ∈ gw9 := gw9_in 301 (by decide +kernel) rfl
theorem w9_302 : (Jvm.Cond.static ({ cls := "LorryArms", name := "isBetween", desc := "(III)Z" } : Jvm.MethodName)) ∈ gw9 := gw9_in 302 (by decide +kernel) rfl
theorem w9_303 : (Jvm.Cond.code ({ cls := "LorryArms", name := "isBetween", desc := "(III)Z" } : Jvm.MethodName) prog_1_method_14_code (3 : Nat) (Option.some Jvm.ClassFile.FieldType.boolean)) ∈ gw9 := gw9_in 303 (by decide +kernel) rfl
theorem w9_304 : (Jvm.Cond.methodLink "LorryArms" (96 : Nat) ({ cls := "LorryArms", name := "isLastDigitOfTicks", desc := "(II)Z" } : Jvm.MethodName)) ∈ gw9 := gw9_in 304 (by decide +kernel) rfl
theorem w9_305 : (Jvm.Cond.static ({ cls := "LorryArms", name := "isLastDigitOfTicks", desc := "(II)Z" } : Jvm.MethodName)) ∈ gw9 := gw9_in 305 (by decide +kernel) rfl
theorem w9_306 : (Jvm.Cond.code ({ cls := "LorryArms", name := "isLastDigitOfTicks", desc := "(II)Z" } : Jvm.MethodName) prog_1_method_12_code (2 : Nat) (Option.some Jvm.ClassFile.FieldType.boolean)) ∈ gw9 := gw9_in 306 (by decide +kernel) rfl
theorem w9_307 : (Jvm.Cond.methodLink "LorryArms" (100 : Nat) ({ cls := "LorryArms", name := "isLastDigitOfLength", desc := "(II)Z" } : Jvm.MethodName)) ∈ gw9 := gw9_in 307 (by decide +kernel) rfl
theorem w9_308 : (Jvm.Cond.static ({ cls := "LorryArms", name := "isLastDigitOfLength", desc := "(II)Z" } : Jvm.MethodName)) ∈ gw9 := gw9_in 308 (by decide +kernel) rfl
theorem w9_309 : (Jvm.Cond.code ({ cls := "LorryArms", name := "isLastDigitOfLength", desc := "(II)Z" } : Jvm.MethodName) prog_1_method_13_code (2 : Nat) (Option.some Jvm.ClassFile.FieldType.boolean)) ∈ gw9 := gw9_in 309 (by decide +kernel) rfl
theorem w9_310 : (Jvm.Cond.methodLink "LorryArms" (63 : Nat) ({ cls := "LorryArms", name := "commandLength", desc := "(I)I" } : Jvm.MethodName)) ∈ gw9 := gw9_in 310 (by decide +kernel) rfl
theorem w9_312 : (Jvm.Cond.instanceMethod ({ cls := "LorryArms", name := "commandLength", desc := "(I)I" } : Jvm.MethodName)) ∈ gw9 := gw9_in 312 (by decide +kernel) rfl
theorem w9_313 : (Jvm.Cond.code ({ cls := "LorryArms", name := "commandLength", desc := "(I)I" } : Jvm.MethodName) prog_1_method_15_code (3 : Nat) (Option.some Jvm.ClassFile.FieldType.int)) ∈ gw9 := gw9_in 313 (by decide +kernel) rfl
theorem w9_315 : (Jvm.Cond.methodLink "LorryArms" (72 : Nat) ({ cls := "LorryArms$Gate", name := "clear", desc := "()V" } : Jvm.MethodName)) ∈ gw9 := gw9_in 315 (by decide +kernel) rfl
theorem w9_316 : (Jvm.Cond.methodLink "LorryArms" (75 : Nat) ({ cls := "LorryArms", name := "forgetAll", desc := "()V" } : Jvm.MethodName)) ∈ gw9 := gw9_in 316 (by decide +kernel) rfl
theorem w9_318 : (Jvm.Cond.instanceMethod ({ cls := "LorryArms", name := "forgetAll", desc := "()V" } : Jvm.MethodName)) ∈ gw9 := gw9_in 318 (by decide +kernel) rfl
theorem w9_319 : (Jvm.Cond.code ({ cls := "LorryArms", name := "forgetAll", desc := "()V" } : Jvm.MethodName) prog_1_method_35_code (1 : Nat) (Option.none : Option Jvm.ClassFile.FieldType)) ∈ gw9 := gw9_in 319 (by decide +kernel) rfl
theorem w9_320 : (Jvm.Cond.methodLink "LorryArms" (78 : Nat) ({ cls := "LorryArms", name := "doCommand", desc := "(I)Z" } : Jvm.MethodName)) ∈ gw9 := gw9_in 320 (by decide +kernel) rfl
theorem w9_322 : (Jvm.Cond.instanceMethod ({ cls := "LorryArms", name := "doCommand", desc := "(I)Z" } : Jvm.MethodName)) ∈ gw9 := gw9_in 322 (by decide +kernel) rfl
theorem w9_323 : (Jvm.Cond.code ({ cls := "LorryArms", name := "doCommand", desc := "(I)Z" } : Jvm.MethodName) prog_1_method_16_code (2 : Nat) (Option.some Jvm.ClassFile.FieldType.boolean)) ∈ gw9 := gw9_in 323 (by decide +kernel) rfl
theorem w9_324 : (Jvm.Cond.methodLink "LorryArms" (103 : Nat) ({ cls := "LorryArms$Gate", name := "addLane", desc := "()Z" } : Jvm.MethodName)) ∈ gw9 := gw9_in 324 (by decide +kernel) rfl
theorem w9_325 : (Jvm.Cond.instanceMethod ({ cls := "LorryArms$Gate", name := "addLane", desc := "()Z" } : Jvm.MethodName)) ∈ gw9 := gw9_in 325 (by decide +kernel) rfl
theorem w9_326 : (Jvm.Cond.selects "LorryArms$Gate" ({ cls := "LorryArms$Gate", name := "addLane", desc := "()Z" } : Jvm.MethodName) ({ cls := "LorryArms$Gate", name := "addLane", desc := "()Z" } : Jvm.MethodName)) ∈ gw9 := gw9_in 326 (by decide +kernel) rfl
theorem w9_327 : (Jvm.Cond.code ({ cls := "LorryArms$Gate", name := "addLane", desc := "()Z" } : Jvm.MethodName) prog_2_method_5_code (1 : Nat) (Option.some Jvm.ClassFile.FieldType.boolean)) ∈ gw9 := gw9_in 327 (by decide +kernel) rfl
theorem w9_328 : (Jvm.Cond.methodLink "LorryArms$Gate" (42 : Nat) ({ cls := "LorryArms$Lane", name := "clear", desc := "()V" } : Jvm.MethodName)) ∈ gw9 := gw9_in 328 (by decide +kernel) rfl
theorem w9_329 : (Jvm.Cond.methodLink "LorryArms" (107 : Nat) ({ cls := "LorryArms", name := "doArrival", desc := "(I)Z" } : Jvm.MethodName)) ∈ gw9 := gw9_in 329 (by decide +kernel) rfl
theorem w9_331 : (Jvm.Cond.instanceMethod ({ cls := "LorryArms", name := "doArrival", desc := "(I)Z" } : Jvm.MethodName)) ∈ gw9 := gw9_in 331 (by decide +kernel) rfl
theorem w9_332 : (Jvm.Cond.code ({ cls := "LorryArms", name := "doArrival", desc := "(I)Z" } : Jvm.MethodName) prog_1_method_17_code (4 : Nat) (Option.some Jvm.ClassFile.FieldType.boolean)) ∈ gw9 := gw9_in 332 (by decide +kernel) rfl
theorem w9_333 : (Jvm.Cond.methodLink "LorryArms" (82 : Nat) ({ cls := "LorryArms", name := "digitAt", desc := "(I)I" } : Jvm.MethodName)) ∈ gw9 := gw9_in 333 (by decide +kernel) rfl
theorem w9_335 : (Jvm.Cond.instanceMethod ({ cls := "LorryArms", name := "digitAt", desc := "(I)I" } : Jvm.MethodName)) ∈ gw9 := gw9_in 335 (by decide +kernel) rfl
theorem w9_336 : (Jvm.Cond.code ({ cls := "LorryArms", name := "digitAt", desc := "(I)I" } : Jvm.MethodName) prog_1_method_7_code (2 : Nat) (Option.some Jvm.ClassFile.FieldType.int)) ∈ gw9 := gw9_in 336 (by decide +kernel) rfl
theorem w9_337 : (Jvm.Cond.methodLink "LorryArms" (117 : Nat) ({ cls := "LorryArms", name := "twoDigitsAt", desc := "(I)I" } : Jvm.MethodName)) ∈ gw9 := gw9_in 337 (by decide +kernel) rfl
theorem w9_339 : (Jvm.Cond.instanceMethod ({ cls := "LorryArms", name := "twoDigitsAt", desc := "(I)I" } : Jvm.MethodName)) ∈ gw9 := gw9_in 339 (by decide +kernel) rfl
theorem w9_340 : (Jvm.Cond.code ({ cls := "LorryArms", name := "twoDigitsAt", desc := "(I)I" } : Jvm.MethodName) prog_1_method_8_code (2 : Nat) (Option.some Jvm.ClassFile.FieldType.int)) ∈ gw9 := gw9_in 340 (by decide +kernel) rfl
theorem w9_341 : (Jvm.Cond.methodLink "LorryArms" (123 : Nat) ({ cls := "LorryArms$Gate", name := "addVehicle", desc := "(IIZZ)Z" } : Jvm.MethodName)) ∈ gw9 := gw9_in 341 (by decide +kernel) rfl
theorem w9_342 : (Jvm.Cond.instanceMethod ({ cls := "LorryArms$Gate", name := "addVehicle", desc := "(IIZZ)Z" } : Jvm.MethodName)) ∈ gw9 := gw9_in 342 (by decide +kernel) rfl
theorem w9_343 : (Jvm.Cond.selects "LorryArms$Gate" ({ cls := "LorryArms$Gate", name := "addVehicle", desc := "(IIZZ)Z" } : Jvm.MethodName) ({ cls := "LorryArms$Gate", name := "addVehicle", desc := "(IIZZ)Z" } : Jvm.MethodName)) ∈ gw9 := gw9_in 343 (by decide +kernel) rfl
theorem w9_344 : (Jvm.Cond.code ({ cls := "LorryArms$Gate", name := "addVehicle", desc := "(IIZZ)Z" } : Jvm.MethodName) prog_2_method_6_code (5 : Nat) (Option.some Jvm.ClassFile.FieldType.boolean)) ∈ gw9 := gw9_in 344 (by decide +kernel) rfl
theorem w9_345 : (Jvm.Cond.methodLink "LorryArms$Gate" (43 : Nat) ({ cls := "LorryArms$Gate", name := "hasLane", desc := "(I)Z" } : Jvm.MethodName)) ∈ gw9 := gw9_in 345 (by decide +kernel) rfl
theorem w9_346 : (Jvm.Cond.instanceMethod ({ cls := "LorryArms$Gate", name := "hasLane", desc := "(I)Z" } : Jvm.MethodName)) ∈ gw9 := gw9_in 346 (by decide +kernel) rfl
theorem w9_347 : (Jvm.Cond.selects "LorryArms$Gate" ({ cls := "LorryArms$Gate", name := "hasLane", desc := "(I)Z" } : Jvm.MethodName) ({ cls := "LorryArms$Gate", name := "hasLane", desc := "(I)Z" } : Jvm.MethodName)) ∈ gw9 := gw9_in 347 (by decide +kernel) rfl
theorem w9_348 : (Jvm.Cond.code ({ cls := "LorryArms$Gate", name := "hasLane", desc := "(I)Z" } : Jvm.MethodName) prog_2_method_4_code (2 : Nat) (Option.some Jvm.ClassFile.FieldType.boolean)) ∈ gw9 := gw9_in 348 (by decide +kernel) rfl
theorem w9_349 : (Jvm.Cond.methodLink "LorryArms$Gate" (47 : Nat) ({ cls := "LorryArms$Lane", name := "addVehicle", desc := "(IZZ)Z" } : Jvm.MethodName)) ∈ gw9 := gw9_in 349 (by decide +kernel) rfl
theorem w9_350 : (Jvm.Cond.instanceMethod ({ cls := "LorryArms$Lane", name := "addVehicle", desc := "(IZZ)Z" } : Jvm.MethodName)) ∈ gw9 := gw9_in 350 (by decide +kernel) rfl
theorem w9_351 : (Jvm.Cond.selects "LorryArms$Lane" ({ cls := "LorryArms$Lane", name := "addVehicle", desc := "(IZZ)Z" } : Jvm.MethodName) ({ cls := "LorryArms$Lane", name := "addVehicle", desc := "(IZZ)Z" } : Jvm.MethodName)) ∈ gw9 := gw9_in 351 (by decide +kernel) rfl
theorem w9_352 : (Jvm.Cond.code ({ cls := "LorryArms$Lane", name := "addVehicle", desc := "(IZZ)Z" } : Jvm.MethodName) prog_3_method_7_code (5 : Nat) (Option.some Jvm.ClassFile.FieldType.boolean)) ∈ gw9 := gw9_in 352 (by decide +kernel) rfl
theorem w9_353 : (Jvm.Cond.methodLink "LorryArms$Lane" (73 : Nat) ({ cls := "LorryArms$Lane", name := "lastCell", desc := "(I)I" } : Jvm.MethodName)) ∈ gw9 := gw9_in 353 (by decide +kernel) rfl
theorem w9_355 : (Jvm.Cond.instanceMethod ({ cls := "LorryArms$Lane", name := "lastCell", desc := "(I)I" } : Jvm.MethodName)) ∈ gw9 := gw9_in 355 (by decide +kernel) rfl
theorem w9_356 : (Jvm.Cond.code ({ cls := "LorryArms$Lane", name := "lastCell", desc := "(I)I" } : Jvm.MethodName) prog_3_method_6_code (2 : Nat) (Option.some Jvm.ClassFile.FieldType.int)) ∈ gw9 := gw9_in 356 (by decide +kernel) rfl
theorem w9_357 : (Jvm.Cond.methodLink "LorryArms$Lane" (77 : Nat) ({ cls := "java/lang/Math", name := "min", desc := "(II)I" } : Jvm.MethodName)) ∈ gw9 := gw9_in 357 (by decide +kernel) rfl
theorem w9_358 : (Jvm.Cond.static ({ cls := "java/lang/Math", name := "min", desc := "(II)I" } : Jvm.MethodName)) ∈ gw9 := gw9_in 358 (by decide +kernel) rfl
theorem w9_359 : (Jvm.Cond.code ({ cls := "java/lang/Math", name := "min", desc := "(II)I" } : Jvm.MethodName) prog_10_method_69_code (2 : Nat) (Option.some Jvm.ClassFile.FieldType.int)) ∈ gw9 := gw9_in 359 (by decide +kernel) rfl
theorem w9_360 : (Jvm.Cond.methodLink "LorryArms" (110 : Nat) ({ cls := "LorryArms$Gate", name := "changeLoop", desc := "(IZ)Z" } : Jvm.MethodName)) ∈ gw9 := gw9_in 360 (by decide +kernel) rfl
theorem w9_361 : (Jvm.Cond.instanceMethod ({ cls := "LorryArms$Gate", name := "changeLoop", desc := "(IZ)Z" } : Jvm.MethodName)) ∈ gw9 := gw9_in 361 (by decide +kernel) rfl
theorem w9_362 : (Jvm.Cond.selects "LorryArms$Gate" ({ cls := "LorryArms$Gate", name := "changeLoop", desc := "(IZ)Z" } : Jvm.MethodName) ({ cls := "LorryArms$Gate", name := "changeLoop", desc := "(IZ)Z" } : Jvm.MethodName)) ∈ gw9 := gw9_in 362 (by decide +kernel) rfl
theorem w9_363 : (Jvm.Cond.code ({ cls := "LorryArms$Gate", name := "changeLoop", desc := "(IZ)Z" } : Jvm.MethodName) prog_2_method_7_code (3 : Nat) (Option.some Jvm.ClassFile.FieldType.boolean)) ∈ gw9 := gw9_in 363 (by decide +kernel) rfl
theorem w9_364 : (Jvm.Cond.methodLink "LorryArms" (114 : Nat) ({ cls := "LorryArms$Gate", name := "mendArm", desc := "(I)Z" } : Jvm.MethodName)) ∈ gw9 := gw9_in 364 (by decide +kernel) rfl
theorem w9_365 : (Jvm.Cond.instanceMethod ({ cls := "LorryArms$Gate", name := "mendArm", desc := "(I)Z" } : Jvm.MethodName)) ∈ gw9 := gw9_in 365 (by decide +kernel) rfl
theorem w9_366 : (Jvm.Cond.selects "LorryArms$Gate" ({ cls := "LorryArms$Gate", name := "mendArm", desc := "(I)Z" } : Jvm.MethodName) ({ cls := "LorryArms$Gate", name := "mendArm", desc := "(I)Z" } : Jvm.MethodName)) ∈ gw9 := gw9_in 366 (by decide +kernel) rfl
theorem w9_367 : (Jvm.Cond.code ({ cls := "LorryArms$Gate", name := "mendArm", desc := "(I)Z" } : Jvm.MethodName) prog_2_method_8_code (2 : Nat) (Option.some Jvm.ClassFile.FieldType.boolean)) ∈ gw9 := gw9_in 367 (by decide +kernel) rfl
theorem w9_368 : (Jvm.Cond.methodLink "LorryArms$Gate" (55 : Nat) ({ cls := "LorryArms$Lane", name := "canBeMended", desc := "()Z" } : Jvm.MethodName)) ∈ gw9 := gw9_in 368 (by decide +kernel) rfl
theorem w9_369 : (Jvm.Cond.instanceMethod ({ cls := "LorryArms$Lane", name := "canBeMended", desc := "()Z" } : Jvm.MethodName)) ∈ gw9 := gw9_in 369 (by decide +kernel) rfl
theorem w9_370 : (Jvm.Cond.selects "LorryArms$Lane" ({ cls := "LorryArms$Lane", name := "canBeMended", desc := "()Z" } : Jvm.MethodName) ({ cls := "LorryArms$Lane", name := "canBeMended", desc := "()Z" } : Jvm.MethodName)) ∈ gw9 := gw9_in 370 (by decide +kernel) rfl
theorem w9_371 : (Jvm.Cond.code ({ cls := "LorryArms$Lane", name := "canBeMended", desc := "()Z" } : Jvm.MethodName) prog_3_method_22_code (1 : Nat) (Option.some Jvm.ClassFile.FieldType.boolean)) ∈ gw9 := gw9_in 371 (by decide +kernel) rfl
theorem w9_372 : (Jvm.Cond.methodLink "LorryArms$Lane" (124 : Nat) ({ cls := "LorryArms$Lane", name := "isUnderArm", desc := "()Z" } : Jvm.MethodName)) ∈ gw9 := gw9_in 372 (by decide +kernel) rfl
theorem w9_374 : (Jvm.Cond.instanceMethod ({ cls := "LorryArms$Lane", name := "isUnderArm", desc := "()Z" } : Jvm.MethodName)) ∈ gw9 := gw9_in 374 (by decide +kernel) rfl
theorem w9_375 : (Jvm.Cond.code ({ cls := "LorryArms$Lane", name := "isUnderArm", desc := "()Z" } : Jvm.MethodName) prog_3_method_18_code (2 : Nat) (Option.some Jvm.ClassFile.FieldType.boolean)) ∈ gw9 := gw9_in 375 (by decide +kernel) rfl
theorem w9_376 : (Jvm.Cond.methodLink "LorryArms" (120 : Nat) ({ cls := "LorryArms$Gate", name := "letTicksGo", desc := "(I)Z" } : Jvm.MethodName)) ∈ gw9 := gw9_in 376 (by decide +kernel) rfl
theorem w9_377 : (Jvm.Cond.instanceMethod ({ cls := "LorryArms$Gate", name := "letTicksGo", desc := "(I)Z" } : Jvm.MethodName)) ∈ gw9 := gw9_in 377 (by decide +kernel) rfl
theorem w9_378 : (Jvm.Cond.selects "LorryArms$Gate" ({ cls := "LorryArms$Gate", name := "letTicksGo", desc := "(I)Z" } : Jvm.MethodName) ({ cls := "LorryArms$Gate", name := "letTicksGo", desc := "(I)Z" } : Jvm.MethodName)) ∈ gw9 := gw9_in 378 (by decide +kernel) rfl
theorem w9_379 : (Jvm.Cond.code ({ cls := "LorryArms$Gate", name := "letTicksGo", desc := "(I)Z" } : Jvm.MethodName) prog_2_method_9_code (4 : Nat) (Option.some Jvm.ClassFile.FieldType.boolean)) ∈ gw9 := gw9_in 379 (by decide +kernel) rfl
theorem w9_380 : (Jvm.Cond.methodLink "LorryArms$Gate" (62 : Nat) ({ cls := "LorryArms$Lane", name := "tick", desc := "([I)V" } : Jvm.MethodName)) ∈ gw9 := gw9_in 380 (by decide +kernel) rfl
theorem w9_381 : (Jvm.Cond.instanceMethod ({ cls := "LorryArms$Lane", name := "tick", desc := "([I)V" } : Jvm.MethodName)) ∈ gw9 := gw9_in 381 (by decide +kernel) rfl
theorem w9_382 : (Jvm.Cond.selects "LorryArms$Lane" ({ cls := "LorryArms$Lane", name := "tick", desc := "([I)V" } : Jvm.MethodName) ({ cls := "LorryArms$Lane", name := "tick", desc := "([I)V" } : Jvm.MethodName)) ∈ gw9 := gw9_in 382 (by decide +kernel) rfl
theorem w9_383 : (Jvm.Cond.code ({ cls := "LorryArms$Lane", name := "tick", desc := "([I)V" } : Jvm.MethodName) prog_3_method_8_code (2 : Nat) (Option.none : Option Jvm.ClassFile.FieldType)) ∈ gw9 := gw9_in 383 (by decide +kernel) rfl
theorem w9_384 : (Jvm.Cond.methodLink "LorryArms$Lane" (83 : Nat) ({ cls := "LorryArms$Lane", name := "moveVehicles", desc := "()V" } : Jvm.MethodName)) ∈ gw9 := gw9_in 384 (by decide +kernel) rfl
theorem w9_386 : (Jvm.Cond.instanceMethod ({ cls := "LorryArms$Lane", name := "moveVehicles", desc := "()V" } : Jvm.MethodName)) ∈ gw9 := gw9_in 386 (by decide +kernel) rfl
theorem w9_387 : (Jvm.Cond.code ({ cls := "LorryArms$Lane", name := "moveVehicles", desc := "()V" } : Jvm.MethodName) prog_3_method_9_code (2 : Nat) (Option.none : Option Jvm.ClassFile.FieldType)) ∈ gw9 := gw9_in 387 (by decide +kernel) rfl
theorem w9_388 : (Jvm.Cond.methodLink "LorryArms$Lane" (104 : Nat) ({ cls := "LorryArms$Lane", name := "canMove", desc := "(I)Z" } : Jvm.MethodName)) ∈ gw9 := gw9_in 388 (by decide +kernel) rfl
theorem w9_390 : (Jvm.Cond.instanceMethod ({ cls := "LorryArms$Lane", name := "canMove", desc := "(I)Z" } : Jvm.MethodName)) ∈ gw9 := gw9_in 390 (by decide +kernel) rfl
theorem w9_391 : (Jvm.Cond.code ({ cls := "LorryArms$Lane", name := "canMove", desc := "(I)Z" } : Jvm.MethodName) prog_3_method_10_code (3 : Nat) (Option.some Jvm.ClassFile.FieldType.boolean)) ∈ gw9 := gw9_in 391 (by decide +kernel) rfl
theorem w9_392 : (Jvm.Cond.methodLink "LorryArms$Lane" (108 : Nat) ({ cls := "LorryArms$Lane", name := "removeFirst", desc := "()V" } : Jvm.MethodName)) ∈ gw9 := gw9_in 392 (by decide +kernel) rfl
theorem w9_394 : (Jvm.Cond.instanceMethod ({ cls := "LorryArms$Lane", name := "removeFirst", desc := "()V" } : Jvm.MethodName)) ∈ gw9 := gw9_in 394 (by decide +kernel) rfl
theorem w9_395 : (Jvm.Cond.code ({ cls := "LorryArms$Lane", name := "removeFirst", desc := "()V" } : Jvm.MethodName) prog_3_method_11_code (2 : Nat) (Option.none : Option Jvm.ClassFile.FieldType)) ∈ gw9 := gw9_in 395 (by decide +kernel) rfl
theorem w9_396 : (Jvm.Cond.methodLink "LorryArms$Lane" (69 : Nat) ({ cls := "LorryArms$Lane", name := "copyVehicle", desc := "(LLorryArms$Lane;II)V" } : Jvm.MethodName)) ∈ gw9 := gw9_in 396 (by decide +kernel) rfl
theorem w9_398 : (Jvm.Cond.instanceMethod ({ cls := "LorryArms$Lane", name := "copyVehicle", desc := "(LLorryArms$Lane;II)V" } : Jvm.MethodName)) ∈ gw9 := gw9_in 398 (by decide +kernel) rfl
theorem w9_399 : (Jvm.Cond.code ({ cls := "LorryArms$Lane", name := "copyVehicle", desc := "(LLorryArms$Lane;II)V" } : Jvm.MethodName) prog_3_method_4_code (4 : Nat) (Option.none : Option Jvm.ClassFile.FieldType)) ∈ gw9 := gw9_in 399 (by decide +kernel) rfl
theorem w9_400 : (Jvm.Cond.methodLink "LorryArms$Lane" (86 : Nat) ({ cls := "LorryArms$Lane", name := "checkTicket", desc := "(III)V" } : Jvm.MethodName)) ∈ gw9 := gw9_in 400 (by decide +kernel) rfl
theorem w9_402 : (Jvm.Cond.instanceMethod ({ cls := "LorryArms$Lane", name := "checkTicket", desc := "(III)V" } : Jvm.MethodName)) ∈ gw9 := gw9_in 402 (by decide +kernel) rfl
theorem w9_403 : (Jvm.Cond.code ({ cls := "LorryArms$Lane", name := "checkTicket", desc := "(III)V" } : Jvm.MethodName) prog_3_method_12_code (5 : Nat) (Option.none : Option Jvm.ClassFile.FieldType)) ∈ gw9 := gw9_in 403 (by decide +kernel) rfl
theorem w9_404 : (Jvm.Cond.methodLink "LorryArms$Lane" (111 : Nat) ({ cls := "LorryArms$Lane", name := "vehicleInCheck", desc := "()I" } : Jvm.MethodName)) ∈ gw9 := gw9_in 404 (by decide +kernel) rfl
theorem w9_406 : (Jvm.Cond.instanceMethod ({ cls := "LorryArms$Lane", name := "vehicleInCheck", desc := "()I" } : Jvm.MethodName)) ∈ gw9 := gw9_in 406 (by decide +kernel) rfl
theorem w9_407 : (Jvm.Cond.code ({ cls := "LorryArms$Lane", name := "vehicleInCheck", desc := "()I" } : Jvm.MethodName) prog_3_method_13_code (2 : Nat) (Option.some Jvm.ClassFile.FieldType.int)) ∈ gw9 := gw9_in 407 (by decide +kernel) rfl
theorem w9_408 : (Jvm.Cond.methodLink "LorryArms$Lane" (90 : Nat) ({ cls := "LorryArms$Lane", name := "reason", desc := "()I" } : Jvm.MethodName)) ∈ gw9 := gw9_in 408 (by decide +kernel) rfl
theorem w9_409 : (Jvm.Cond.instanceMethod ({ cls := "LorryArms$Lane", name := "reason", desc := "()I" } : Jvm.MethodName)) ∈ gw9 := gw9_in 409 (by decide +kernel) rfl
theorem w9_410 : (Jvm.Cond.selects "LorryArms$Lane" ({ cls := "LorryArms$Lane", name := "reason", desc := "()I" } : Jvm.MethodName) ({ cls := "LorryArms$Lane", name := "reason", desc := "()I" } : Jvm.MethodName)) ∈ gw9 := gw9_in 410 (by decide +kernel) rfl
theorem w9_411 : (Jvm.Cond.code ({ cls := "LorryArms$Lane", name := "reason", desc := "()I" } : Jvm.MethodName) prog_3_method_15_code (1 : Nat) (Option.some Jvm.ClassFile.FieldType.int)) ∈ gw9 := gw9_in 411 (by decide +kernel) rfl
theorem w9_412 : (Jvm.Cond.methodLink "LorryArms$Lane" (117 : Nat) ({ cls := "LorryArms$Lane", name := "letVehicleWaits", desc := "()Z" } : Jvm.MethodName)) ∈ gw9 := gw9_in 412 (by decide +kernel) rfl
theorem w9_414 : (Jvm.Cond.instanceMethod ({ cls := "LorryArms$Lane", name := "letVehicleWaits", desc := "()Z" } : Jvm.MethodName)) ∈ gw9 := gw9_in 414 (by decide +kernel) rfl
theorem w9_415 : (Jvm.Cond.code ({ cls := "LorryArms$Lane", name := "letVehicleWaits", desc := "()Z" } : Jvm.MethodName) prog_3_method_16_code (2 : Nat) (Option.some Jvm.ClassFile.FieldType.boolean)) ∈ gw9 := gw9_in 415 (by decide +kernel) rfl
theorem w9_416 : (Jvm.Cond.methodLink "LorryArms$Lane" (121 : Nat) ({ cls := "LorryArms$Lane", name := "isLoopCovered", desc := "()Z" } : Jvm.MethodName)) ∈ gw9 := gw9_in 416 (by decide +kernel) rfl
theorem w9_418 : (Jvm.Cond.instanceMethod ({ cls := "LorryArms$Lane", name := "isLoopCovered", desc := "()Z" } : Jvm.MethodName)) ∈ gw9 := gw9_in 418 (by decide +kernel) rfl
theorem w9_419 : (Jvm.Cond.code ({ cls := "LorryArms$Lane", name := "isLoopCovered", desc := "()Z" } : Jvm.MethodName) prog_3_method_17_code (2 : Nat) (Option.some Jvm.ClassFile.FieldType.boolean)) ∈ gw9 := gw9_in 419 (by decide +kernel) rfl
theorem w9_420 : (Jvm.Cond.methodLink "LorryArms$Lane" (94 : Nat) ({ cls := "LorryArms$Lane", name := "moveArm", desc := "(Z)V" } : Jvm.MethodName)) ∈ gw9 := gw9_in 420 (by decide +kernel) rfl
theorem w9_422 : (Jvm.Cond.instanceMethod ({ cls := "LorryArms$Lane", name := "moveArm", desc := "(Z)V" } : Jvm.MethodName)) ∈ gw9 := gw9_in 422 (by decide +kernel) rfl
theorem w9_423 : (Jvm.Cond.code ({ cls := "LorryArms$Lane", name := "moveArm", desc := "(Z)V" } : Jvm.MethodName) prog_3_method_14_code (2 : Nat) (Option.none : Option Jvm.ClassFile.FieldType)) ∈ gw9 := gw9_in 423 (by decide +kernel) rfl
theorem w9_424 : (Jvm.Cond.methodLink "LorryArms$Lane" (114 : Nat) ({ cls := "java/lang/Math", name := "max", desc := "(II)I" } : Jvm.MethodName)) ∈ gw9 := gw9_in 424 (by decide +kernel) rfl
theorem w9_425 : (Jvm.Cond.static ({ cls := "java/lang/Math", name := "max", desc := "(II)I" } : Jvm.MethodName)) ∈ gw9 := gw9_in 425 (by decide +kernel) rfl
theorem w9_426 : (Jvm.Cond.code ({ cls := "java/lang/Math", name := "max", desc := "(II)I" } : Jvm.MethodName) prog_10_method_65_code (2 : Nat) (Option.some Jvm.ClassFile.FieldType.int)) ∈ gw9 := gw9_in 426 (by decide +kernel) rfl
theorem w9_427 : (Jvm.Cond.methodLink "LorryArms$Lane" (98 : Nat) ({ cls := "LorryArms$Lane", name := "hitIfUnderArm", desc := "()V" } : Jvm.MethodName)) ∈ gw9 := gw9_in 427 (by decide +kernel) rfl
theorem w9_429 : (Jvm.Cond.instanceMethod ({ cls := "LorryArms$Lane", name := "hitIfUnderArm", desc := "()V" } : Jvm.MethodName)) ∈ gw9 := gw9_in 429 (by decide +kernel) rfl
theorem w9_430 : (Jvm.Cond.code ({ cls := "LorryArms$Lane", name := "hitIfUnderArm", desc := "()V" } : Jvm.MethodName) prog_3_method_19_code (1 : Nat) (Option.none : Option Jvm.ClassFile.FieldType)) ∈ gw9 := gw9_in 430 (by decide +kernel) rfl
theorem w9_431 : (Jvm.Cond.methodLink "LorryArms$Lane" (101 : Nat) ({ cls := "LorryArms$Lane", name := "countThrough", desc := "()V" } : Jvm.MethodName)) ∈ gw9 := gw9_in 431 (by decide +kernel) rfl
theorem w9_433 : (Jvm.Cond.instanceMethod ({ cls := "LorryArms$Lane", name := "countThrough", desc := "()V" } : Jvm.MethodName)) ∈ gw9 := gw9_in 433 (by decide +kernel) rfl
theorem w9_434 : (Jvm.Cond.code ({ cls := "LorryArms$Lane", name := "countThrough", desc := "()V" } : Jvm.MethodName) prog_3_method_20_code (2 : Nat) (Option.none : Option Jvm.ClassFile.FieldType)) ∈ gw9 := gw9_in 434 (by decide +kernel) rfl
theorem w9_435 : (Jvm.Cond.methodLink "LorryArmsLaw" (105 : Nat) ({ cls := "LorryArmsLaw", name := "tryAbout", desc := "(LLorryArms;I)I" } : Jvm.MethodName)) ∈ gw9 := gw9_in 435 (by decide +kernel) rfl
theorem w9_436 : (Jvm.Cond.static ({ cls := "LorryArmsLaw", name := "tryAbout", desc := "(LLorryArms;I)I" } : Jvm.MethodName)) ∈ gw9 := gw9_in 436 (by decide +kernel) rfl
theorem w9_437 : (Jvm.Cond.codeWith ({ cls := "LorryArmsLaw", name := "tryAbout", desc := "(LLorryArms;I)I" } : Jvm.MethodName) method_8_code (3 : Nat) (Option.some Jvm.ClassFile.FieldType.int) [((0 : Nat), (5 : Nat), (6 : Nat), (16 : Nat))]) ∈ gw9 := gw9_in 437 (by decide +kernel) rfl
theorem w9_438 : (Jvm.Cond.methodLink "LorryArmsLaw" (42 : Nat) ({ cls := "LorryArms", name := "about", desc := "(I)I" } : Jvm.MethodName)) ∈ gw9 := gw9_in 438 (by decide +kernel) rfl
theorem w9_439 : (Jvm.Cond.instanceMethod ({ cls := "LorryArms", name := "about", desc := "(I)I" } : Jvm.MethodName)) ∈ gw9 := gw9_in 439 (by decide +kernel) rfl
theorem w9_440 : (Jvm.Cond.selects "LorryArms" ({ cls := "LorryArms", name := "about", desc := "(I)I" } : Jvm.MethodName) ({ cls := "LorryArms", name := "about", desc := "(I)I" } : Jvm.MethodName)) ∈ gw9 := gw9_in 440 (by decide +kernel) rfl
theorem w9_441 : (Jvm.Cond.code ({ cls := "LorryArms", name := "about", desc := "(I)I" } : Jvm.MethodName) prog_1_method_18_code (2 : Nat) (Option.some Jvm.ClassFile.FieldType.int)) ∈ gw9 := gw9_in 441 (by decide +kernel) rfl
theorem w9_443 : (Jvm.Cond.methodLink "LorryArms" (135 : Nat) ({ cls := "LorryArms$Gate", name := "total", desc := "(I)I" } : Jvm.MethodName)) ∈ gw9 := gw9_in 443 (by decide +kernel) rfl
theorem w9_444 : (Jvm.Cond.instanceMethod ({ cls := "LorryArms$Gate", name := "total", desc := "(I)I" } : Jvm.MethodName)) ∈ gw9 := gw9_in 444 (by decide +kernel) rfl
theorem w9_445 : (Jvm.Cond.selects "LorryArms$Gate" ({ cls := "LorryArms$Gate", name := "total", desc := "(I)I" } : Jvm.MethodName) ({ cls := "LorryArms$Gate", name := "total", desc := "(I)I" } : Jvm.MethodName)) ∈ gw9 := gw9_in 445 (by decide +kernel) rfl
theorem w9_446 : (Jvm.Cond.code ({ cls := "LorryArms$Gate", name := "total", desc := "(I)I" } : Jvm.MethodName) prog_2_method_11_code (4 : Nat) (Option.some Jvm.ClassFile.FieldType.int)) ∈ gw9 := gw9_in 446 (by decide +kernel) rfl
theorem w9_447 : (Jvm.Cond.methodLink "LorryArms$Gate" (70 : Nat) ({ cls := "LorryArms$Lane", name := "tally", desc := "(I)I" } : Jvm.MethodName)) ∈ gw9 := gw9_in 447 (by decide +kernel) rfl
theorem w9_448 : (Jvm.Cond.instanceMethod ({ cls := "LorryArms$Lane", name := "tally", desc := "(I)I" } : Jvm.MethodName)) ∈ gw9 := gw9_in 448 (by decide +kernel) rfl
theorem w9_449 : (Jvm.Cond.selects "LorryArms$Lane" ({ cls := "LorryArms$Lane", name := "tally", desc := "(I)I" } : Jvm.MethodName) ({ cls := "LorryArms$Lane", name := "tally", desc := "(I)I" } : Jvm.MethodName)) ∈ gw9 := gw9_in 449 (by decide +kernel) rfl
theorem w9_450 : (Jvm.Cond.code ({ cls := "LorryArms$Lane", name := "tally", desc := "(I)I" } : Jvm.MethodName) prog_3_method_26_code (2 : Nat) (Option.some Jvm.ClassFile.FieldType.int)) ∈ gw9 := gw9_in 450 (by decide +kernel) rfl
theorem w9_451 : (Jvm.Cond.methodLink "LorryArmsLaw" (108 : Nat) ({ cls := "LorryArmsLaw", name := "tryLane", desc := "(LLorryArms;II)I" } : Jvm.MethodName)) ∈ gw9 := gw9_in 451 (by decide +kernel) rfl
theorem w9_452 : (Jvm.Cond.static ({ cls := "LorryArmsLaw", name := "tryLane", desc := "(LLorryArms;II)I" } : Jvm.MethodName)) ∈ gw9 := gw9_in 452 (by decide +kernel) rfl
theorem w9_453 : (Jvm.Cond.codeWith ({ cls := "LorryArmsLaw", name := "tryLane", desc := "(LLorryArms;II)I" } : Jvm.MethodName) method_9_code (4 : Nat) (Option.some Jvm.ClassFile.FieldType.int) [((0 : Nat), (6 : Nat), (7 : Nat), (13 : Nat)), ((0 : Nat), (6 : Nat), (11 : Nat), (16 : Nat))]) ∈ gw9 := gw9_in 453 (by decide +kernel) rfl
theorem w9_454 : (Jvm.Cond.classLink "LorryArmsLaw" (13 : Nat) "java/lang/IndexOutOfBoundsException") ∈ gw9 := gw9_in 454 (by decide +kernel) rfl
theorem w9_455 : (Jvm.Cond.methodLink "LorryArmsLaw" (45 : Nat) ({ cls := "LorryArms", name := "laneOf", desc := "(II)I" } : Jvm.MethodName)) ∈ gw9 := gw9_in 455 (by decide +kernel) rfl
theorem w9_456 : (Jvm.Cond.instanceMethod ({ cls := "LorryArms", name := "laneOf", desc := "(II)I" } : Jvm.MethodName)) ∈ gw9 := gw9_in 456 (by decide +kernel) rfl
theorem w9_457 : (Jvm.Cond.selects "LorryArms" ({ cls := "LorryArms", name := "laneOf", desc := "(II)I" } : Jvm.MethodName) ({ cls := "LorryArms", name := "laneOf", desc := "(II)I" } : Jvm.MethodName)) ∈ gw9 := gw9_in 457 (by decide +kernel) rfl
theorem w9_458 : (Jvm.Cond.code ({ cls := "LorryArms", name := "laneOf", desc := "(II)I" } : Jvm.MethodName) prog_1_method_19_code (3 : Nat) (Option.some Jvm.ClassFile.FieldType.int)) ∈ gw9 := gw9_in 458 (by decide +kernel) rfl
theorem w9_459 : (Jvm.Cond.methodLink "LorryArms" (138 : Nat) ({ cls := "LorryArms", name := "checkLane", desc := "(I)V" } : Jvm.MethodName)) ∈ gw9 := gw9_in 459 (by decide +kernel) rfl
theorem w9_461 : (Jvm.Cond.instanceMethod ({ cls := "LorryArms", name := "checkLane", desc := "(I)V" } : Jvm.MethodName)) ∈ gw9 := gw9_in 461 (by decide +kernel) rfl
theorem w9_462 : (Jvm.Cond.code ({ cls := "LorryArms", name := "checkLane", desc := "(I)V" } : Jvm.MethodName) prog_1_method_23_code (2 : Nat) (Option.none : Option Jvm.ClassFile.FieldType)) ∈ gw9 := gw9_in 462 (by decide +kernel) rfl
theorem w9_463 : (Jvm.Cond.methodLink "LorryArms" (172 : Nat) ({ cls := "LorryArms$Gate", name := "hasLane", desc := "(I)Z" } : Jvm.MethodName)) ∈ gw9 := gw9_in 463 (by decide +kernel) rfl
theorem w9_464 : (Jvm.Cond.classLink "LorryArms" (175 : Nat) "java/lang/IndexOutOfBoundsException") ∈ gw9 := gw9_in 464 (by decide +kernel) rfl
theorem w9_481 : (Jvm.Cond.methodLink "LorryArms" (148 : Nat) ({ cls := "LorryArms$Lane", name := "number", desc := "(I)I" } : Jvm.MethodName)) ∈ gw9 := gw9_in 481 (by decide +kernel) rfl
theorem w9_482 : (Jvm.Cond.instanceMethod ({ cls := "LorryArms$Lane", name := "number", desc := "(I)I" } : Jvm.MethodName)) ∈ gw9 := gw9_in 482 (by decide +kernel) rfl
theorem w9_483 : (Jvm.Cond.selects "LorryArms$Lane" ({ cls := "LorryArms$Lane", name := "number", desc := "(I)I" } : Jvm.MethodName) ({ cls := "LorryArms$Lane", name := "number", desc := "(I)I" } : Jvm.MethodName)) ∈ gw9 := gw9_in 483 (by decide +kernel) rfl
theorem w9_484 : (Jvm.Cond.code ({ cls := "LorryArms$Lane", name := "number", desc := "(I)I" } : Jvm.MethodName) prog_3_method_24_code (2 : Nat) (Option.some Jvm.ClassFile.FieldType.int)) ∈ gw9 := gw9_in 484 (by decide +kernel) rfl
theorem w9_485 : (Jvm.Cond.methodLink "LorryArms$Lane" (130 : Nat) ({ cls := "LorryArms$Lane", name := "countUnlet", desc := "()I" } : Jvm.MethodName)) ∈ gw9 := gw9_in 485 (by decide +kernel) rfl
theorem w9_487 : (Jvm.Cond.instanceMethod ({ cls := "LorryArms$Lane", name := "countUnlet", desc := "()I" } : Jvm.MethodName)) ∈ gw9 := gw9_in 487 (by decide +kernel) rfl
theorem w9_488 : (Jvm.Cond.code ({ cls := "LorryArms$Lane", name := "countUnlet", desc := "()I" } : Jvm.MethodName) prog_3_method_23_code (3 : Nat) (Option.some Jvm.ClassFile.FieldType.int)) ∈ gw9 := gw9_in 488 (by decide +kernel) rfl
theorem w9_489 : (Jvm.Cond.constant "LorryArmsLaw" (15 : Nat) (-9999001 : Int32)) ∈ gw9 := gw9_in 489 (by decide +kernel) rfl
theorem w9_490 : (Jvm.Cond.methodLink "LorryArmsLaw" (112 : Nat) ({ cls := "LorryArmsLaw", name := "tryVehicle", desc := "(LLorryArms;III)I" } : Jvm.MethodName)) ∈ gw9 := gw9_in 490 (by decide +kernel) rfl
theorem w9_491 : (Jvm.Cond.static ({ cls := "LorryArmsLaw", name := "tryVehicle", desc := "(LLorryArms;III)I" } : Jvm.MethodName)) ∈ gw9 := gw9_in 491 (by decide +kernel) rfl
theorem w9_492 : (Jvm.Cond.codeWith ({ cls := "LorryArmsLaw", name := "tryVehicle", desc := "(LLorryArms;III)I" } : Jvm.MethodName) method_10_code (5 : Nat) (Option.some Jvm.ClassFile.FieldType.int) [((0 : Nat), (7 : Nat), (8 : Nat), (13 : Nat)), ((0 : Nat), (7 : Nat), (13 : Nat), (16 : Nat))]) ∈ gw9 := gw9_in 492 (by decide +kernel) rfl
theorem w9_493 : (Jvm.Cond.methodLink "LorryArmsLaw" (49 : Nat) ({ cls := "LorryArms", name := "vehicle", desc := "(III)I" } : Jvm.MethodName)) ∈ gw9 := gw9_in 493 (by decide +kernel) rfl
theorem w9_494 : (Jvm.Cond.instanceMethod ({ cls := "LorryArms", name := "vehicle", desc := "(III)I" } : Jvm.MethodName)) ∈ gw9 := gw9_in 494 (by decide +kernel) rfl
theorem w9_495 : (Jvm.Cond.selects "LorryArms" ({ cls := "LorryArms", name := "vehicle", desc := "(III)I" } : Jvm.MethodName) ({ cls := "LorryArms", name := "vehicle", desc := "(III)I" } : Jvm.MethodName)) ∈ gw9 := gw9_in 495 (by decide +kernel) rfl
theorem w9_496 : (Jvm.Cond.code ({ cls := "LorryArms", name := "vehicle", desc := "(III)I" } : Jvm.MethodName) prog_1_method_20_code (4 : Nat) (Option.some Jvm.ClassFile.FieldType.int)) ∈ gw9 := gw9_in 496 (by decide +kernel) rfl
theorem w9_497 : (Jvm.Cond.methodLink "LorryArms" (153 : Nat) ({ cls := "LorryArms", name := "checkVehicle", desc := "(II)V" } : Jvm.MethodName)) ∈ gw9 := gw9_in 497 (by decide +kernel) rfl
theorem w9_499 : (Jvm.Cond.instanceMethod ({ cls := "LorryArms", name := "checkVehicle", desc := "(II)V" } : Jvm.MethodName)) ∈ gw9 := gw9_in 499 (by decide +kernel) rfl
theorem w9_500 : (Jvm.Cond.code ({ cls := "LorryArms", name := "checkVehicle", desc := "(II)V" } : Jvm.MethodName) prog_1_method_24_code (3 : Nat) (Option.none : Option Jvm.ClassFile.FieldType)) ∈ gw9 := gw9_in 500 (by decide +kernel) rfl
theorem w9_501 : (Jvm.Cond.methodLink "LorryArms" (180 : Nat) ({ cls := "LorryArms$Lane", name := "hasVehicle", desc := "(I)Z" } : Jvm.MethodName)) ∈ gw9 := gw9_in 501 (by decide +kernel) rfl
theorem w9_502 : (Jvm.Cond.instanceMethod ({ cls := "LorryArms$Lane", name := "hasVehicle", desc := "(I)Z" } : Jvm.MethodName)) ∈ gw9 := gw9_in 502 (by decide +kernel) rfl
theorem w9_503 : (Jvm.Cond.selects "LorryArms$Lane" ({ cls := "LorryArms$Lane", name := "hasVehicle", desc := "(I)Z" } : Jvm.MethodName) ({ cls := "LorryArms$Lane", name := "hasVehicle", desc := "(I)Z" } : Jvm.MethodName)) ∈ gw9 := gw9_in 503 (by decide +kernel) rfl
theorem w9_504 : (Jvm.Cond.code ({ cls := "LorryArms$Lane", name := "hasVehicle", desc := "(I)Z" } : Jvm.MethodName) prog_3_method_5_code (2 : Nat) (Option.some Jvm.ClassFile.FieldType.boolean)) ∈ gw9 := gw9_in 504 (by decide +kernel) rfl
theorem w9_507 : (Jvm.Cond.methodLink "LorryArms" (159 : Nat) ({ cls := "LorryArms$Lane", name := "numberOfVehicle", desc := "(II)I" } : Jvm.MethodName)) ∈ gw9 := gw9_in 507 (by decide +kernel) rfl
theorem w9_508 : (Jvm.Cond.instanceMethod ({ cls := "LorryArms$Lane", name := "numberOfVehicle", desc := "(II)I" } : Jvm.MethodName)) ∈ gw9 := gw9_in 508 (by decide +kernel) rfl
theorem w9_509 : (Jvm.Cond.selects "LorryArms$Lane" ({ cls := "LorryArms$Lane", name := "numberOfVehicle", desc := "(II)I" } : Jvm.MethodName) ({ cls := "LorryArms$Lane", name := "numberOfVehicle", desc := "(II)I" } : Jvm.MethodName)) ∈ gw9 := gw9_in 509 (by decide +kernel) rfl
theorem w9_510 : (Jvm.Cond.code ({ cls := "LorryArms$Lane", name := "numberOfVehicle", desc := "(II)I" } : Jvm.MethodName) prog_3_method_25_code (3 : Nat) (Option.some Jvm.ClassFile.FieldType.int)) ∈ gw9 := gw9_in 510 (by decide +kernel) rfl
theorem w9_511 : (Jvm.Cond.methodLink "LorryArms$Lane" (127 : Nat) ({ cls := "LorryArms$Lane", name := "hasVehicle", desc := "(I)Z" } : Jvm.MethodName)) ∈ gw9 := gw9_in 511 (by decide +kernel) rfl
theorem w9_512 : (Jvm.Cond.methodLink "LorryArmsLaw" (116 : Nat) ({ cls := "LorryArmsLaw", name := "tryWhy", desc := "(LLorryArms;I)I" } : Jvm.MethodName)) ∈ gw9 := gw9_in 512 (by decide +kernel) rfl
theorem w9_513 : (Jvm.Cond.static ({ cls := "LorryArmsLaw", name := "tryWhy", desc := "(LLorryArms;I)I" } : Jvm.MethodName)) ∈ gw9 := gw9_in 513 (by decide +kernel) rfl
theorem w9_514 : (Jvm.Cond.codeWith ({ cls := "LorryArmsLaw", name := "tryWhy", desc := "(LLorryArms;I)I" } : Jvm.MethodName) method_11_code (3 : Nat) (Option.some Jvm.ClassFile.FieldType.int) [((0 : Nat), (5 : Nat), (6 : Nat), (13 : Nat))]) ∈ gw9 := gw9_in 514 (by decide +kernel) rfl
theorem w9_515 : (Jvm.Cond.methodLink "LorryArmsLaw" (53 : Nat) ({ cls := "LorryArms", name := "why", desc := "(I)I" } : Jvm.MethodName)) ∈ gw9 := gw9_in 515 (by decide +kernel) rfl
theorem w9_516 : (Jvm.Cond.instanceMethod ({ cls := "LorryArms", name := "why", desc := "(I)I" } : Jvm.MethodName)) ∈ gw9 := gw9_in 516 (by decide +kernel) rfl
theorem w9_517 : (Jvm.Cond.selects "LorryArms" ({ cls := "LorryArms", name := "why", desc := "(I)I" } : Jvm.MethodName) ({ cls := "LorryArms", name := "why", desc := "(I)I" } : Jvm.MethodName)) ∈ gw9 := gw9_in 517 (by decide +kernel) rfl
theorem w9_518 : (Jvm.Cond.code ({ cls := "LorryArms", name := "why", desc := "(I)I" } : Jvm.MethodName) prog_1_method_21_code (2 : Nat) (Option.some Jvm.ClassFile.FieldType.int)) ∈ gw9 := gw9_in 518 (by decide +kernel) rfl
theorem w9_519 : (Jvm.Cond.methodLink "LorryArms" (163 : Nat) ({ cls := "LorryArms$Lane", name := "reason", desc := "()I" } : Jvm.MethodName)) ∈ gw9 := gw9_in 519 (by decide +kernel) rfl
theorem w9_520 : (Jvm.Cond.methodLink "LorryArmsLaw" (119 : Nat) ({ cls := "LorryArmsLaw", name := "trySetting", desc := "(LLorryArms;I)I" } : Jvm.MethodName)) ∈ gw9 := gw9_in 520 (by decide +kernel) rfl
theorem w9_521 : (Jvm.Cond.static ({ cls := "LorryArmsLaw", name := "trySetting", desc := "(LLorryArms;I)I" } : Jvm.MethodName)) ∈ gw9 := gw9_in 521 (by decide +kernel) rfl
theorem w9_522 : (Jvm.Cond.codeWith ({ cls := "LorryArmsLaw", name := "trySetting", desc := "(LLorryArms;I)I" } : Jvm.MethodName) method_12_code (3 : Nat) (Option.some Jvm.ClassFile.FieldType.int) [((0 : Nat), (5 : Nat), (6 : Nat), (16 : Nat))]) ∈ gw9 := gw9_in 522 (by decide +kernel) rfl
theorem w9_523 : (Jvm.Cond.methodLink "LorryArmsLaw" (56 : Nat) ({ cls := "LorryArms", name := "setting", desc := "(I)I" } : Jvm.MethodName)) ∈ gw9 := gw9_in 523 (by decide +kernel) rfl
theorem w9_524 : (Jvm.Cond.instanceMethod ({ cls := "LorryArms", name := "setting", desc := "(I)I" } : Jvm.MethodName)) ∈ gw9 := gw9_in 524 (by decide +kernel) rfl
theorem w9_525 : (Jvm.Cond.selects "LorryArms" ({ cls := "LorryArms", name := "setting", desc := "(I)I" } : Jvm.MethodName) ({ cls := "LorryArms", name := "setting", desc := "(I)I" } : Jvm.MethodName)) ∈ gw9 := gw9_in 525 (by decide +kernel) rfl
theorem w9_526 : (Jvm.Cond.code ({ cls := "LorryArms", name := "setting", desc := "(I)I" } : Jvm.MethodName) prog_1_method_22_code (2 : Nat) (Option.some Jvm.ClassFile.FieldType.int)) ∈ gw9 := gw9_in 526 (by decide +kernel) rfl
theorem w9_528 : (Jvm.Cond.methodLink "LorryArmsLaw" (122 : Nat) ({ cls := "LorryArmsLaw", name := "tryAdd", desc := "(LLorryArms;)I" } : Jvm.MethodName)) ∈ gw9 := gw9_in 528 (by decide +kernel) rfl
theorem w9_529 : (Jvm.Cond.static ({ cls := "LorryArmsLaw", name := "tryAdd", desc := "(LLorryArms;)I" } : Jvm.MethodName)) ∈ gw9 := gw9_in 529 (by decide +kernel) rfl
theorem w9_530 : (Jvm.Cond.codeWith ({ cls := "LorryArmsLaw", name := "tryAdd", desc := "(LLorryArms;)I" } : Jvm.MethodName) method_13_code (2 : Nat) (Option.some Jvm.ClassFile.FieldType.int) [((0 : Nat), (4 : Nat), (5 : Nat), (19 : Nat))]) ∈ gw9 := gw9_in 530 (by decide +kernel) rfl
theorem w9_531 : (Jvm.Cond.methodLink "LorryArmsLaw" (59 : Nat) ({ cls := "LorryArms", name := "lane", desc := "()I" } : Jvm.MethodName)) ∈ gw9 := gw9_in 531 (by decide +kernel) rfl
theorem w9_532 : (Jvm.Cond.instanceMethod ({ cls := "LorryArms", name := "lane", desc := "()I" } : Jvm.MethodName)) ∈ gw9 := gw9_in 532 (by decide +kernel) rfl
theorem w9_533 : (Jvm.Cond.selects "LorryArms" ({ cls := "LorryArms", name := "lane", desc := "()I" } : Jvm.MethodName) ({ cls := "LorryArms", name := "lane", desc := "()I" } : Jvm.MethodName)) ∈ gw9 := gw9_in 533 (by decide +kernel) rfl
theorem w9_534 : (Jvm.Cond.code ({ cls := "LorryArms", name := "lane", desc := "()I" } : Jvm.MethodName) prog_1_method_26_code (1 : Nat) (Option.some Jvm.ClassFile.FieldType.int)) ∈ gw9 := gw9_in 534 (by decide +kernel) rfl
theorem w9_536 : (Jvm.Cond.methodLink "LorryArms" (189 : Nat) ({ cls := "LorryArms", name := "remember", desc := "()V" } : Jvm.MethodName)) ∈ gw9 := gw9_in 536 (by decide +kernel) rfl
theorem w9_538 : (Jvm.Cond.instanceMethod ({ cls := "LorryArms", name := "remember", desc := "()V" } : Jvm.MethodName)) ∈ gw9 := gw9_in 538 (by decide +kernel) rfl
theorem w9_539 : (Jvm.Cond.code ({ cls := "LorryArms", name := "remember", desc := "()V" } : Jvm.MethodName) prog_1_method_34_code (1 : Nat) (Option.none : Option Jvm.ClassFile.FieldType)) ∈ gw9 := gw9_in 539 (by decide +kernel) rfl
theorem w9_540 : (Jvm.Cond.methodLink "LorryArms" (220 : Nat) ({ cls := "LorryArms$Gate", name := "copyFrom", desc := "(LLorryArms$Gate;)V" } : Jvm.MethodName)) ∈ gw9 := gw9_in 540 (by decide +kernel) rfl
theorem w9_541 : (Jvm.Cond.instanceMethod ({ cls := "LorryArms$Gate", name := "copyFrom", desc := "(LLorryArms$Gate;)V" } : Jvm.MethodName)) ∈ gw9 := gw9_in 541 (by decide +kernel) rfl
theorem w9_542 : (Jvm.Cond.selects "LorryArms$Gate" ({ cls := "LorryArms$Gate", name := "copyFrom", desc := "(LLorryArms$Gate;)V" } : Jvm.MethodName) ({ cls := "LorryArms$Gate", name := "copyFrom", desc := "(LLorryArms$Gate;)V" } : Jvm.MethodName)) ∈ gw9 := gw9_in 542 (by decide +kernel) rfl
theorem w9_543 : (Jvm.Cond.code ({ cls := "LorryArms$Gate", name := "copyFrom", desc := "(LLorryArms$Gate;)V" } : Jvm.MethodName) prog_2_method_3_code (3 : Nat) (Option.none : Option Jvm.ClassFile.FieldType)) ∈ gw9 := gw9_in 543 (by decide +kernel) rfl
theorem w9_544 : (Jvm.Cond.methodLink "LorryArms$Gate" (32 : Nat) ({ cls := "java/lang/System", name := "arraycopy", desc := "(Ljava/lang/Object;ILjava/lang/Object;II)V" } : Jvm.MethodName)) ∈ gw9 := gw9_in 544 (by decide +kernel) rfl
theorem w9_545 : (Jvm.Cond.static ({ cls := "java/lang/System", name := "arraycopy", desc := "(Ljava/lang/Object;ILjava/lang/Object;II)V" } : Jvm.MethodName)) ∈ gw9 := gw9_in 545 (by decide +kernel) rfl
theorem w9_546 : (Jvm.Cond.native ({ cls := "java/lang/System", name := "arraycopy", desc := "(Ljava/lang/Object;ILjava/lang/Object;II)V" } : Jvm.MethodName)) ∈ gw9 := gw9_in 546 (by decide +kernel) rfl
theorem w9_547 : (Jvm.Cond.methodLink "LorryArms$Gate" (38 : Nat) ({ cls := "LorryArms$Lane", name := "copyFrom", desc := "(LLorryArms$Lane;)V" } : Jvm.MethodName)) ∈ gw9 := gw9_in 547 (by decide +kernel) rfl
theorem w9_548 : (Jvm.Cond.instanceMethod ({ cls := "LorryArms$Lane", name := "copyFrom", desc := "(LLorryArms$Lane;)V" } : Jvm.MethodName)) ∈ gw9 := gw9_in 548 (by decide +kernel) rfl
theorem w9_549 : (Jvm.Cond.selects "LorryArms$Lane" ({ cls := "LorryArms$Lane", name := "copyFrom", desc := "(LLorryArms$Lane;)V" } : Jvm.MethodName) ({ cls := "LorryArms$Lane", name := "copyFrom", desc := "(LLorryArms$Lane;)V" } : Jvm.MethodName)) ∈ gw9 := gw9_in 549 (by decide +kernel) rfl
theorem w9_550 : (Jvm.Cond.code ({ cls := "LorryArms$Lane", name := "copyFrom", desc := "(LLorryArms$Lane;)V" } : Jvm.MethodName) prog_3_method_3_code (3 : Nat) (Option.none : Option Jvm.ClassFile.FieldType)) ∈ gw9 := gw9_in 550 (by decide +kernel) rfl
theorem w9_551 : (Jvm.Cond.methodLink "LorryArmsLaw" (125 : Nat) ({ cls := "LorryArmsLaw", name := "tryMend", desc := "(LLorryArms;I)I" } : Jvm.MethodName)) ∈ gw9 := gw9_in 551 (by decide +kernel) rfl
theorem w9_552 : (Jvm.Cond.static ({ cls := "LorryArmsLaw", name := "tryMend", desc := "(LLorryArms;I)I" } : Jvm.MethodName)) ∈ gw9 := gw9_in 552 (by decide +kernel) rfl
theorem w9_553 : (Jvm.Cond.codeWith ({ cls := "LorryArmsLaw", name := "tryMend", desc := "(LLorryArms;I)I" } : Jvm.MethodName) method_14_code (3 : Nat) (Option.some Jvm.ClassFile.FieldType.int) [((0 : Nat), (5 : Nat), (6 : Nat), (13 : Nat)), ((0 : Nat), (5 : Nat), (10 : Nat), (19 : Nat))]) ∈ gw9 := gw9_in 553 (by decide +kernel) rfl
theorem w9_554 : (Jvm.Cond.methodLink "LorryArmsLaw" (62 : Nat) ({ cls := "LorryArms", name := "mend", desc := "(I)I" } : Jvm.MethodName)) ∈ gw9 := gw9_in 554 (by decide +kernel) rfl
theorem w9_555 : (Jvm.Cond.instanceMethod ({ cls := "LorryArms", name := "mend", desc := "(I)I" } : Jvm.MethodName)) ∈ gw9 := gw9_in 555 (by decide +kernel) rfl
theorem w9_556 : (Jvm.Cond.selects "LorryArms" ({ cls := "LorryArms", name := "mend", desc := "(I)I" } : Jvm.MethodName) ({ cls := "LorryArms", name := "mend", desc := "(I)I" } : Jvm.MethodName)) ∈ gw9 := gw9_in 556 (by decide +kernel) rfl
theorem w9_557 : (Jvm.Cond.code ({ cls := "LorryArms", name := "mend", desc := "(I)I" } : Jvm.MethodName) prog_1_method_29_code (2 : Nat) (Option.some Jvm.ClassFile.FieldType.int)) ∈ gw9 := gw9_in 557 (by decide +kernel) rfl
theorem w9_558 : (Jvm.Cond.methodLink "LorryArms" (200 : Nat) ({ cls := "LorryArms$Lane", name := "canBeMended", desc := "()Z" } : Jvm.MethodName)) ∈ gw9 := gw9_in 558 (by decide +kernel) rfl
theorem w9_560 : (Jvm.Cond.methodLink "LorryArmsLaw" (128 : Nat) ({ cls := "LorryArmsLaw", name := "tryRun", desc := "(LLorryArms;I)I" } : Jvm.MethodName)) ∈ gw9 := gw9_in 560 (by decide +kernel) rfl
theorem w9_561 : (Jvm.Cond.static ({ cls := "LorryArmsLaw", name := "tryRun", desc := "(LLorryArms;I)I" } : Jvm.MethodName)) ∈ gw9 := gw9_in 561 (by decide +kernel) rfl
theorem w9_562 : (Jvm.Cond.codeWith ({ cls := "LorryArmsLaw", name := "tryRun", desc := "(LLorryArms;I)I" } : Jvm.MethodName) method_15_code (3 : Nat) (Option.some Jvm.ClassFile.FieldType.int) [((0 : Nat), (5 : Nat), (6 : Nat), (16 : Nat))]) ∈ gw9 := gw9_in 562 (by decide +kernel) rfl
theorem w9_563 : (Jvm.Cond.methodLink "LorryArmsLaw" (65 : Nat) ({ cls := "LorryArms", name := "run", desc := "(I)I" } : Jvm.MethodName)) ∈ gw9 := gw9_in 563 (by decide +kernel) rfl
theorem w9_564 : (Jvm.Cond.instanceMethod ({ cls := "LorryArms", name := "run", desc := "(I)I" } : Jvm.MethodName)) ∈ gw9 := gw9_in 564 (by decide +kernel) rfl
theorem w9_565 : (Jvm.Cond.selects "LorryArms" ({ cls := "LorryArms", name := "run", desc := "(I)I" } : Jvm.MethodName) ({ cls := "LorryArms", name := "run", desc := "(I)I" } : Jvm.MethodName)) ∈ gw9 := gw9_in 565 (by decide +kernel) rfl
theorem w9_566 : (Jvm.Cond.code ({ cls := "LorryArms", name := "run", desc := "(I)I" } : Jvm.MethodName) prog_1_method_30_code (3 : Nat) (Option.some Jvm.ClassFile.FieldType.int)) ∈ gw9 := gw9_in 566 (by decide +kernel) rfl
theorem w9_568 : (Jvm.Cond.methodLink "LorryArmsLaw" (131 : Nat) ({ cls := "LorryArmsLaw", name := "tryLay", desc := "(LLorryArms;II)I" } : Jvm.MethodName)) ∈ gw9 := gw9_in 568 (by decide +kernel) rfl
theorem w9_569 : (Jvm.Cond.static ({ cls := "LorryArmsLaw", name := "tryLay", desc := "(LLorryArms;II)I" } : Jvm.MethodName)) ∈ gw9 := gw9_in 569 (by decide +kernel) rfl
theorem w9_570 : (Jvm.Cond.codeWith ({ cls := "LorryArmsLaw", name := "tryLay", desc := "(LLorryArms;II)I" } : Jvm.MethodName) method_16_code (4 : Nat) (Option.some Jvm.ClassFile.FieldType.int) [((0 : Nat), (6 : Nat), (7 : Nat), (16 : Nat))]) ∈ gw9 := gw9_in 570 (by decide +kernel) rfl
theorem w9_571 : (Jvm.Cond.methodLink "LorryArmsLaw" (68 : Nat) ({ cls := "LorryArms", name := "set", desc := "(II)I" } : Jvm.MethodName)) ∈ gw9 := gw9_in 571 (by decide +kernel) rfl
theorem w9_572 : (Jvm.Cond.instanceMethod ({ cls := "LorryArms", name := "set", desc := "(II)I" } : Jvm.MethodName)) ∈ gw9 := gw9_in 572 (by decide +kernel) rfl
theorem w9_573 : (Jvm.Cond.selects "LorryArms" ({ cls := "LorryArms", name := "set", desc := "(II)I" } : Jvm.MethodName) ({ cls := "LorryArms", name := "set", desc := "(II)I" } : Jvm.MethodName)) ∈ gw9 := gw9_in 573 (by decide +kernel) rfl
theorem w9_574 : (Jvm.Cond.code ({ cls := "LorryArms", name := "set", desc := "(II)I" } : Jvm.MethodName) prog_1_method_31_code (4 : Nat) (Option.some Jvm.ClassFile.FieldType.int)) ∈ gw9 := gw9_in 574 (by decide +kernel) rfl
theorem w9_575 : (Jvm.Cond.methodLink "LorryArms" (210 : Nat) ({ cls := "LorryArms", name := "isSetting", desc := "(II)Z" } : Jvm.MethodName)) ∈ gw9 := gw9_in 575 (by decide +kernel) rfl
theorem w9_576 : (Jvm.Cond.static ({ cls := "LorryArms", name := "isSetting", desc := "(II)Z" } : Jvm.MethodName)) ∈ gw9 := gw9_in 576 (by decide +kernel) rfl
theorem w9_577 : (Jvm.Cond.code ({ cls := "LorryArms", name := "isSetting", desc := "(II)Z" } : Jvm.MethodName) prog_1_method_33_code (2 : Nat) (Option.some Jvm.ClassFile.FieldType.boolean)) ∈ gw9 := gw9_in 577 (by decide +kernel) rfl
theorem w9_579 : (Jvm.Cond.methodLink "LorryArms" (215 : Nat) ({ cls := "LorryArms$Gate", name := "changeSetting", desc := "(II)Z" } : Jvm.MethodName)) ∈ gw9 := gw9_in 579 (by decide +kernel) rfl
theorem w9_580 : (Jvm.Cond.instanceMethod ({ cls := "LorryArms$Gate", name := "changeSetting", desc := "(II)Z" } : Jvm.MethodName)) ∈ gw9 := gw9_in 580 (by decide +kernel) rfl
theorem w9_581 : (Jvm.Cond.selects "LorryArms$Gate" ({ cls := "LorryArms$Gate", name := "changeSetting", desc := "(II)Z" } : Jvm.MethodName) ({ cls := "LorryArms$Gate", name := "changeSetting", desc := "(II)Z" } : Jvm.MethodName)) ∈ gw9 := gw9_in 581 (by decide +kernel) rfl
theorem w9_582 : (Jvm.Cond.code ({ cls := "LorryArms$Gate", name := "changeSetting", desc := "(II)Z" } : Jvm.MethodName) prog_2_method_10_code (3 : Nat) (Option.some Jvm.ClassFile.FieldType.boolean)) ∈ gw9 := gw9_in 582 (by decide +kernel) rfl
theorem w9_584 : (Jvm.Cond.methodLink "LorryArmsLaw" (134 : Nat) ({ cls := "LorryArmsLaw", name := "tryUndo", desc := "(LLorryArms;)I" } : Jvm.MethodName)) ∈ gw9 := gw9_in 584 (by decide +kernel) rfl
theorem w9_585 : (Jvm.Cond.static ({ cls := "LorryArmsLaw", name := "tryUndo", desc := "(LLorryArms;)I" } : Jvm.MethodName)) ∈ gw9 := gw9_in 585 (by decide +kernel) rfl
theorem w9_586 : (Jvm.Cond.codeWith ({ cls := "LorryArmsLaw", name := "tryUndo", desc := "(LLorryArms;)I" } : Jvm.MethodName) method_17_code (2 : Nat) (Option.some Jvm.ClassFile.FieldType.int) [((0 : Nat), (4 : Nat), (5 : Nat), (19 : Nat))]) ∈ gw9 := gw9_in 586 (by decide +kernel) rfl
theorem w9_587 : (Jvm.Cond.methodLink "LorryArmsLaw" (71 : Nat) ({ cls := "LorryArms", name := "undo", desc := "()I" } : Jvm.MethodName)) ∈ gw9 := gw9_in 587 (by decide +kernel) rfl
theorem w9_588 : (Jvm.Cond.instanceMethod ({ cls := "LorryArms", name := "undo", desc := "()I" } : Jvm.MethodName)) ∈ gw9 := gw9_in 588 (by decide +kernel) rfl
theorem w9_589 : (Jvm.Cond.selects "LorryArms" ({ cls := "LorryArms", name := "undo", desc := "()I" } : Jvm.MethodName) ({ cls := "LorryArms", name := "undo", desc := "()I" } : Jvm.MethodName)) ∈ gw9 := gw9_in 589 (by decide +kernel) rfl
theorem w9_590 : (Jvm.Cond.code ({ cls := "LorryArms", name := "undo", desc := "()I" } : Jvm.MethodName) prog_1_method_32_code (1 : Nat) (Option.some Jvm.ClassFile.FieldType.int)) ∈ gw9 := gw9_in 590 (by decide +kernel) rfl
theorem w9_592 : (Jvm.Cond.methodLink "LorryArmsLaw" (137 : Nat) ({ cls := "LorryArmsLaw", name := "tryEmpty", desc := "(LLorryArms;I)I" } : Jvm.MethodName)) ∈ gw9 := gw9_in 592 (by decide +kernel) rfl
theorem w9_593 : (Jvm.Cond.static ({ cls := "LorryArmsLaw", name := "tryEmpty", desc := "(LLorryArms;I)I" } : Jvm.MethodName)) ∈ gw9 := gw9_in 593 (by decide +kernel) rfl
theorem w9_594 : (Jvm.Cond.codeWith ({ cls := "LorryArmsLaw", name := "tryEmpty", desc := "(LLorryArms;I)I" } : Jvm.MethodName) method_18_code (3 : Nat) (Option.some Jvm.ClassFile.FieldType.int) [((0 : Nat), (5 : Nat), (6 : Nat), (13 : Nat))]) ∈ gw9 := gw9_in 594 (by decide +kernel) rfl
theorem w9_595 : (Jvm.Cond.methodLink "LorryArmsLaw" (74 : Nat) ({ cls := "LorryArms", name := "emptyIn", desc := "(I)I" } : Jvm.MethodName)) ∈ gw9 := gw9_in 595 (by decide +kernel) rfl
theorem w9_596 : (Jvm.Cond.instanceMethod ({ cls := "LorryArms", name := "emptyIn", desc := "(I)I" } : Jvm.MethodName)) ∈ gw9 := gw9_in 596 (by decide +kernel) rfl
theorem w9_597 : (Jvm.Cond.selects "LorryArms" ({ cls := "LorryArms", name := "emptyIn", desc := "(I)I" } : Jvm.MethodName) ({ cls := "LorryArms", name := "emptyIn", desc := "(I)I" } : Jvm.MethodName)) ∈ gw9 := gw9_in 597 (by decide +kernel) rfl
theorem w9_598 : (Jvm.Cond.code ({ cls := "LorryArms", name := "emptyIn", desc := "(I)I" } : Jvm.MethodName) prog_1_method_36_code (4 : Nat) (Option.some Jvm.ClassFile.FieldType.int)) ∈ gw9 := gw9_in 598 (by decide +kernel) rfl
theorem w9_599 : (Jvm.Cond.methodLink "LorryArms" (224 : Nat) ({ cls := "LorryArms$Lane", name := "tick", desc := "([I)V" } : Jvm.MethodName)) ∈ gw9 := gw9_in 599 (by decide +kernel) rfl
theorem w9_600 : (Jvm.Cond.methodLink "LorryArmsLaw" (140 : Nat) ({ cls := "LorryArmsLaw", name := "tryThrough", desc := "(LLorryArms;II)I" } : Jvm.MethodName)) ∈ gw9 := gw9_in 600 (by decide +kernel) rfl
theorem w9_601 : (Jvm.Cond.static ({ cls := "LorryArmsLaw", name := "tryThrough", desc := "(LLorryArms;II)I" } : Jvm.MethodName)) ∈ gw9 := gw9_in 601 (by decide +kernel) rfl
theorem w9_602 : (Jvm.Cond.codeWith ({ cls := "LorryArmsLaw", name := "tryThrough", desc := "(LLorryArms;II)I" } : Jvm.MethodName) method_19_code (4 : Nat) (Option.some Jvm.ClassFile.FieldType.int) [((0 : Nat), (6 : Nat), (7 : Nat), (13 : Nat))]) ∈ gw9 := gw9_in 602 (by decide +kernel) rfl
theorem w9_603 : (Jvm.Cond.methodLink "LorryArmsLaw" (77 : Nat) ({ cls := "LorryArms", name := "throughIn", desc := "(II)I" } : Jvm.MethodName)) ∈ gw9 := gw9_in 603 (by decide +kernel) rfl
theorem w9_604 : (Jvm.Cond.instanceMethod ({ cls := "LorryArms", name := "throughIn", desc := "(II)I" } : Jvm.MethodName)) ∈ gw9 := gw9_in 604 (by decide +kernel) rfl
theorem w9_605 : (Jvm.Cond.selects "LorryArms" ({ cls := "LorryArms", name := "throughIn", desc := "(II)I" } : Jvm.MethodName) ({ cls := "LorryArms", name := "throughIn", desc := "(II)I" } : Jvm.MethodName)) ∈ gw9 := gw9_in 605 (by decide +kernel) rfl
theorem w9_606 : (Jvm.Cond.code ({ cls := "LorryArms", name := "throughIn", desc := "(II)I" } : Jvm.MethodName) prog_1_method_37_code (3 : Nat) (Option.some Jvm.ClassFile.FieldType.int)) ∈ gw9 := gw9_in 606 (by decide +kernel) rfl
theorem w9_607 : (Jvm.Cond.methodLink "LorryArms" (228 : Nat) ({ cls := "LorryArms", name := "copyThroughIn", desc := "(II)I" } : Jvm.MethodName)) ∈ gw9 := gw9_in 607 (by decide +kernel) rfl
theorem w9_609 : (Jvm.Cond.instanceMethod ({ cls := "LorryArms", name := "copyThroughIn", desc := "(II)I" } : Jvm.MethodName)) ∈ gw9 := gw9_in 609 (by decide +kernel) rfl
theorem w9_610 : (Jvm.Cond.code ({ cls := "LorryArms", name := "copyThroughIn", desc := "(II)I" } : Jvm.MethodName) prog_1_method_41_code (6 : Nat) (Option.some Jvm.ClassFile.FieldType.int)) ∈ gw9 := gw9_in 610 (by decide +kernel) rfl
theorem w9_611 : (Jvm.Cond.methodLink "LorryArms" (242 : Nat) ({ cls := "LorryArms$Lane", name := "hasGoneThrough", desc := "(I)Z" } : Jvm.MethodName)) ∈ gw9 := gw9_in 611 (by decide +kernel) rfl
theorem w9_612 : (Jvm.Cond.instanceMethod ({ cls := "LorryArms$Lane", name := "hasGoneThrough", desc := "(I)Z" } : Jvm.MethodName)) ∈ gw9 := gw9_in 612 (by decide +kernel) rfl
theorem w9_613 : (Jvm.Cond.selects "LorryArms$Lane" ({ cls := "LorryArms$Lane", name := "hasGoneThrough", desc := "(I)Z" } : Jvm.MethodName) ({ cls := "LorryArms$Lane", name := "hasGoneThrough", desc := "(I)Z" } : Jvm.MethodName)) ∈ gw9 := gw9_in 613 (by decide +kernel) rfl
theorem w9_614 : (Jvm.Cond.code ({ cls := "LorryArms$Lane", name := "hasGoneThrough", desc := "(I)Z" } : Jvm.MethodName) prog_3_method_21_code (2 : Nat) (Option.some Jvm.ClassFile.FieldType.boolean)) ∈ gw9 := gw9_in 614 (by decide +kernel) rfl
theorem w9_615 : (Jvm.Cond.methodLink "LorryArmsLaw" (143 : Nat) ({ cls := "LorryArmsLaw", name := "tryBest", desc := "(LLorryArms;I)I" } : Jvm.MethodName)) ∈ gw9 := gw9_in 615 (by decide +kernel) rfl
theorem w9_616 : (Jvm.Cond.static ({ cls := "LorryArmsLaw", name := "tryBest", desc := "(LLorryArms;I)I" } : Jvm.MethodName)) ∈ gw9 := gw9_in 616 (by decide +kernel) rfl
theorem w9_617 : (Jvm.Cond.codeWith ({ cls := "LorryArmsLaw", name := "tryBest", desc := "(LLorryArms;I)I" } : Jvm.MethodName) method_20_code (3 : Nat) (Option.some Jvm.ClassFile.FieldType.int) [((0 : Nat), (5 : Nat), (6 : Nat), (16 : Nat))]) ∈ gw9 := gw9_in 617 (by decide +kernel) rfl
theorem w9_618 : (Jvm.Cond.methodLink "LorryArmsLaw" (80 : Nat) ({ cls := "LorryArms", name := "bestLane", desc := "(I)I" } : Jvm.MethodName)) ∈ gw9 := gw9_in 618 (by decide +kernel) rfl
theorem w9_619 : (Jvm.Cond.instanceMethod ({ cls := "LorryArms", name := "bestLane", desc := "(I)I" } : Jvm.MethodName)) ∈ gw9 := gw9_in 619 (by decide +kernel) rfl
theorem w9_620 : (Jvm.Cond.selects "LorryArms" ({ cls := "LorryArms", name := "bestLane", desc := "(I)I" } : Jvm.MethodName) ({ cls := "LorryArms", name := "bestLane", desc := "(I)I" } : Jvm.MethodName)) ∈ gw9 := gw9_in 620 (by decide +kernel) rfl
theorem w9_621 : (Jvm.Cond.code ({ cls := "LorryArms", name := "bestLane", desc := "(I)I" } : Jvm.MethodName) prog_1_method_38_code (6 : Nat) (Option.some Jvm.ClassFile.FieldType.int)) ∈ gw9 := gw9_in 621 (by decide +kernel) rfl
theorem w9_622 : (Jvm.Cond.methodLink "LorryArms" (192 : Nat) ({ cls := "LorryArms", name := "checkLength", desc := "(I)V" } : Jvm.MethodName)) ∈ gw9 := gw9_in 622 (by decide +kernel) rfl
theorem w9_623 : (Jvm.Cond.static ({ cls := "LorryArms", name := "checkLength", desc := "(I)V" } : Jvm.MethodName)) ∈ gw9 := gw9_in 623 (by decide +kernel) rfl
theorem w9_624 : (Jvm.Cond.code ({ cls := "LorryArms", name := "checkLength", desc := "(I)V" } : Jvm.MethodName) prog_1_method_25_code (1 : Nat) (Option.none : Option Jvm.ClassFile.FieldType)) ∈ gw9 := gw9_in 624 (by decide +kernel) rfl
theorem w9_626 : (Jvm.Cond.methodLink "LorryArmsLaw" (146 : Nat) ({ cls := "LorryArmsLaw", name := "tryComing", desc := "(LLorryArms;II)I" } : Jvm.MethodName)) ∈ gw9 := gw9_in 626 (by decide +kernel) rfl
theorem w9_627 : (Jvm.Cond.static ({ cls := "LorryArmsLaw", name := "tryComing", desc := "(LLorryArms;II)I" } : Jvm.MethodName)) ∈ gw9 := gw9_in 627 (by decide +kernel) rfl
theorem w9_628 : (Jvm.Cond.codeWith ({ cls := "LorryArmsLaw", name := "tryComing", desc := "(LLorryArms;II)I" } : Jvm.MethodName) method_21_code (4 : Nat) (Option.some Jvm.ClassFile.FieldType.int) [((0 : Nat), (6 : Nat), (7 : Nat), (16 : Nat))]) ∈ gw9 := gw9_in 628 (by decide +kernel) rfl
theorem w9_629 : (Jvm.Cond.methodLink "LorryArmsLaw" (83 : Nat) ({ cls := "LorryArms", name := "coming", desc := "(II)I" } : Jvm.MethodName)) ∈ gw9 := gw9_in 629 (by decide +kernel) rfl
theorem w9_630 : (Jvm.Cond.instanceMethod ({ cls := "LorryArms", name := "coming", desc := "(II)I" } : Jvm.MethodName)) ∈ gw9 := gw9_in 630 (by decide +kernel) rfl
theorem w9_631 : (Jvm.Cond.selects "LorryArms" ({ cls := "LorryArms", name := "coming", desc := "(II)I" } : Jvm.MethodName) ({ cls := "LorryArms", name := "coming", desc := "(II)I" } : Jvm.MethodName)) ∈ gw9 := gw9_in 631 (by decide +kernel) rfl
theorem w9_632 : (Jvm.Cond.code ({ cls := "LorryArms", name := "coming", desc := "(II)I" } : Jvm.MethodName) prog_1_method_39_code (5 : Nat) (Option.some Jvm.ClassFile.FieldType.int)) ∈ gw9 := gw9_in 632 (by decide +kernel) rfl
theorem w9_634 : (Jvm.Cond.methodLink "LorryArms" (233 : Nat) ({ cls := "LorryArms$Gate", name := "armsUp", desc := "()I" } : Jvm.MethodName)) ∈ gw9 := gw9_in 634 (by decide +kernel) rfl
theorem w9_635 : (Jvm.Cond.instanceMethod ({ cls := "LorryArms$Gate", name := "armsUp", desc := "()I" } : Jvm.MethodName)) ∈ gw9 := gw9_in 635 (by decide +kernel) rfl
theorem w9_636 : (Jvm.Cond.selects "LorryArms$Gate" ({ cls := "LorryArms$Gate", name := "armsUp", desc := "()I" } : Jvm.MethodName) ({ cls := "LorryArms$Gate", name := "armsUp", desc := "()I" } : Jvm.MethodName)) ∈ gw9 := gw9_in 636 (by decide +kernel) rfl
theorem w9_637 : (Jvm.Cond.code ({ cls := "LorryArms$Gate", name := "armsUp", desc := "()I" } : Jvm.MethodName) prog_2_method_12_code (3 : Nat) (Option.some Jvm.ClassFile.FieldType.int)) ∈ gw9 := gw9_in 637 (by decide +kernel) rfl
theorem w9_638 : (Jvm.Cond.methodLink "LorryArmsLaw" (149 : Nat) ({ cls := "LorryArmsLaw", name := "tryHits", desc := "(LLorryArms;I)I" } : Jvm.MethodName)) ∈ gw9 := gw9_in 638 (by decide +kernel) rfl
theorem w9_639 : (Jvm.Cond.static ({ cls := "LorryArmsLaw", name := "tryHits", desc := "(LLorryArms;I)I" } : Jvm.MethodName)) ∈ gw9 := gw9_in 639 (by decide +kernel) rfl
theorem w9_640 : (Jvm.Cond.codeWith ({ cls := "LorryArmsLaw", name := "tryHits", desc := "(LLorryArms;I)I" } : Jvm.MethodName) method_22_code (3 : Nat) (Option.some Jvm.ClassFile.FieldType.int) [((0 : Nat), (5 : Nat), (6 : Nat), (13 : Nat))]) ∈ gw9 := gw9_in 640 (by decide +kernel) rfl
theorem w9_641 : (Jvm.Cond.methodLink "LorryArmsLaw" (86 : Nat) ({ cls := "LorryArms", name := "hitsIn", desc := "(I)I" } : Jvm.MethodName)) ∈ gw9 := gw9_in 641 (by decide +kernel) rfl
theorem w9_642 : (Jvm.Cond.instanceMethod ({ cls := "LorryArms", name := "hitsIn", desc := "(I)I" } : Jvm.MethodName)) ∈ gw9 := gw9_in 642 (by decide +kernel) rfl
theorem w9_643 : (Jvm.Cond.selects "LorryArms" ({ cls := "LorryArms", name := "hitsIn", desc := "(I)I" } : Jvm.MethodName) ({ cls := "LorryArms", name := "hitsIn", desc := "(I)I" } : Jvm.MethodName)) ∈ gw9 := gw9_in 643 (by decide +kernel) rfl
theorem w9_644 : (Jvm.Cond.code ({ cls := "LorryArms", name := "hitsIn", desc := "(I)I" } : Jvm.MethodName) prog_1_method_40_code (5 : Nat) (Option.some Jvm.ClassFile.FieldType.int)) ∈ gw9 := gw9_in 644 (by decide +kernel) rfl
theorem w9_645 : (Jvm.Cond.methodLink "LorryArmsLaw" (152 : Nat) ({ cls := "LorryArmsLaw", name := "tryKeep", desc := "(LLorryArms;I)I" } : Jvm.MethodName)) ∈ gw9 := gw9_in 645 (by decide +kernel) rfl
theorem w9_646 : (Jvm.Cond.static ({ cls := "LorryArmsLaw", name := "tryKeep", desc := "(LLorryArms;I)I" } : Jvm.MethodName)) ∈ gw9 := gw9_in 646 (by decide +kernel) rfl
theorem w9_647 : (Jvm.Cond.codeWith ({ cls := "LorryArmsLaw", name := "tryKeep", desc := "(LLorryArms;I)I" } : Jvm.MethodName) method_23_code (3 : Nat) (Option.some Jvm.ClassFile.FieldType.int) [((0 : Nat), (5 : Nat), (6 : Nat), (13 : Nat))]) ∈ gw9 := gw9_in 647 (by decide +kernel) rfl
theorem w9_648 : (Jvm.Cond.methodLink "LorryArmsLaw" (89 : Nat) ({ cls := "LorryArms", name := "save", desc := "(I)I" } : Jvm.MethodName)) ∈ gw9 := gw9_in 648 (by decide +kernel) rfl
theorem w9_649 : (Jvm.Cond.instanceMethod ({ cls := "LorryArms", name := "save", desc := "(I)I" } : Jvm.MethodName)) ∈ gw9 := gw9_in 649 (by decide +kernel) rfl
theorem w9_650 : (Jvm.Cond.selects "LorryArms" ({ cls := "LorryArms", name := "save", desc := "(I)I" } : Jvm.MethodName) ({ cls := "LorryArms", name := "save", desc := "(I)I" } : Jvm.MethodName)) ∈ gw9 := gw9_in 650 (by decide +kernel) rfl
theorem w9_651 : (Jvm.Cond.code ({ cls := "LorryArms", name := "save", desc := "(I)I" } : Jvm.MethodName) prog_1_method_47_code (2 : Nat) (Option.some Jvm.ClassFile.FieldType.int)) ∈ gw9 := gw9_in 651 (by decide +kernel) rfl
theorem w9_652 : (Jvm.Cond.methodLink "LorryArms" (272 : Nat) ({ cls := "LorryArms", name := "checkSlot", desc := "(I)V" } : Jvm.MethodName)) ∈ gw9 := gw9_in 652 (by decide +kernel) rfl
theorem w9_653 : (Jvm.Cond.static ({ cls := "LorryArms", name := "checkSlot", desc := "(I)V" } : Jvm.MethodName)) ∈ gw9 := gw9_in 653 (by decide +kernel) rfl
theorem w9_654 : (Jvm.Cond.code ({ cls := "LorryArms", name := "checkSlot", desc := "(I)V" } : Jvm.MethodName) prog_1_method_49_code (1 : Nat) (Option.none : Option Jvm.ClassFile.FieldType)) ∈ gw9 := gw9_in 654 (by decide +kernel) rfl
theorem w9_656 : (Jvm.Cond.methodLink "LorryArmsLaw" (155 : Nat) ({ cls := "LorryArmsLaw", name := "tryBack", desc := "(LLorryArms;I)I" } : Jvm.MethodName)) ∈ gw9 := gw9_in 656 (by decide +kernel) rfl
theorem w9_657 : (Jvm.Cond.static ({ cls := "LorryArmsLaw", name := "tryBack", desc := "(LLorryArms;I)I" } : Jvm.MethodName)) ∈ gw9 := gw9_in 657 (by decide +kernel) rfl
theorem w9_658 : (Jvm.Cond.codeWith ({ cls := "LorryArmsLaw", name := "tryBack", desc := "(LLorryArms;I)I" } : Jvm.MethodName) method_24_code (3 : Nat) (Option.some Jvm.ClassFile.FieldType.int) [((0 : Nat), (5 : Nat), (6 : Nat), (13 : Nat)), ((0 : Nat), (5 : Nat), (10 : Nat), (19 : Nat))]) ∈ gw9 := gw9_in 658 (by decide +kernel) rfl
theorem w9_659 : (Jvm.Cond.methodLink "LorryArmsLaw" (92 : Nat) ({ cls := "LorryArms", name := "restore", desc := "(I)I" } : Jvm.MethodName)) ∈ gw9 := gw9_in 659 (by decide +kernel) rfl
theorem w9_660 : (Jvm.Cond.instanceMethod ({ cls := "LorryArms", name := "restore", desc := "(I)I" } : Jvm.MethodName)) ∈ gw9 := gw9_in 660 (by decide +kernel) rfl
theorem w9_661 : (Jvm.Cond.selects "LorryArms" ({ cls := "LorryArms", name := "restore", desc := "(I)I" } : Jvm.MethodName) ({ cls := "LorryArms", name := "restore", desc := "(I)I" } : Jvm.MethodName)) ∈ gw9 := gw9_in 661 (by decide +kernel) rfl
theorem w9_662 : (Jvm.Cond.code ({ cls := "LorryArms", name := "restore", desc := "(I)I" } : Jvm.MethodName) prog_1_method_48_code (2 : Nat) (Option.some Jvm.ClassFile.FieldType.int)) ∈ gw9 := gw9_in 662 (by decide +kernel) rfl
theorem w9_664 : (Jvm.Cond.methodLink "LorryArmsLaw" (183 : Nat) ({ cls := "LorryArmsLaw", name := "cell", desc := "([II)I" } : Jvm.MethodName)) ∈ gw9 := gw9_in 664 (by decide +kernel) rfl
theorem w9_665 : (Jvm.Cond.static ({ cls := "LorryArmsLaw", name := "cell", desc := "([II)I" } : Jvm.MethodName)) ∈ gw9 := gw9_in 665 (by decide +kernel) rfl
theorem w9_666 : (Jvm.Cond.code ({ cls := "LorryArmsLaw", name := "cell", desc := "([II)I" } : Jvm.MethodName) method_26_code (2 : Nat) (Option.some Jvm.ClassFile.FieldType.int)) ∈ gw9 := gw9_in 666 (by decide +kernel) rfl
theorem w9_667 : (Jvm.Cond.constant "LorryArmsLaw" (158 : Nat) (15519083 : Int32)) ∈ gw9 := gw9_in 667 (by decide +kernel) rfl
theorem w9_668 : (Jvm.Cond.constant "LorryArmsLaw" (159 : Nat) (2147483647 : Int32)) ∈ gw9 := gw9_in 668 (by decide +kernel) rfl
theorem w9_669 : (Jvm.Cond.methodLink "LorryArmsLaw" (203 : Nat) ({ cls := "LorryArmsLaw", name := "thrown", desc := "(I)Z" } : Jvm.MethodName)) ∈ gw9 := gw9_in 669 (by decide +kernel) rfl
theorem w9_670 : (Jvm.Cond.static ({ cls := "LorryArmsLaw", name := "thrown", desc := "(I)Z" } : Jvm.MethodName)) ∈ gw9 := gw9_in 670 (by decide +kernel) rfl
theorem w9_671 : (Jvm.Cond.code ({ cls := "LorryArmsLaw", name := "thrown", desc := "(I)Z" } : Jvm.MethodName) method_27_code (1 : Nat) (Option.some Jvm.ClassFile.FieldType.boolean)) ∈ gw9 := gw9_in 671 (by decide +kernel) rfl
theorem w9_672 : (Jvm.Cond.methodLink "LorryArmsLaw" (191 : Nat) ({ cls := "LorryArmsLaw", name := "refuses", desc := "(LLorryArms;I)Z" } : Jvm.MethodName)) ∈ gw9 := gw9_in 672 (by decide +kernel) rfl
theorem w9_673 : (Jvm.Cond.static ({ cls := "LorryArmsLaw", name := "refuses", desc := "(LLorryArms;I)Z" } : Jvm.MethodName)) ∈ gw9 := gw9_in 673 (by decide +kernel) rfl
theorem w9_674 : (Jvm.Cond.code ({ cls := "LorryArmsLaw", name := "refuses", desc := "(LLorryArms;I)Z" } : Jvm.MethodName) method_28_code (5 : Nat) (Option.some Jvm.ClassFile.FieldType.boolean)) ∈ gw9 := gw9_in 674 (by decide +kernel) rfl
theorem w9_675 : (Jvm.Cond.methodLink "LorryArmsLaw" (164 : Nat) ({ cls := "LorryArmsLaw", name := "comes", desc := "(LLorryArms;IIZZ)I" } : Jvm.MethodName)) ∈ gw9 := gw9_in 675 (by decide +kernel) rfl
theorem w9_676 : (Jvm.Cond.static ({ cls := "LorryArmsLaw", name := "comes", desc := "(LLorryArms;IIZZ)I" } : Jvm.MethodName)) ∈ gw9 := gw9_in 676 (by decide +kernel) rfl
theorem w9_677 : (Jvm.Cond.codeWith ({ cls := "LorryArmsLaw", name := "comes", desc := "(LLorryArms;IIZZ)I" } : Jvm.MethodName) method_2_code (6 : Nat) (Option.some Jvm.ClassFile.FieldType.int) [((0 : Nat), (9 : Nat), (10 : Nat), (13 : Nat)), ((0 : Nat), (9 : Nat), (15 : Nat), (16 : Nat)), ((0 : Nat), (9 : Nat), (20 : Nat), (19 : Nat))]) ∈ gw9 := gw9_in 677 (by decide +kernel) rfl
theorem w9_678 : (Jvm.Cond.methodLink "LorryArmsLaw" (7 : Nat) ({ cls := "LorryArms", name := "arrive", desc := "(IIZZ)I" } : Jvm.MethodName)) ∈ gw9 := gw9_in 678 (by decide +kernel) rfl
theorem w9_679 : (Jvm.Cond.instanceMethod ({ cls := "LorryArms", name := "arrive", desc := "(IIZZ)I" } : Jvm.MethodName)) ∈ gw9 := gw9_in 679 (by decide +kernel) rfl
theorem w9_680 : (Jvm.Cond.selects "LorryArms" ({ cls := "LorryArms", name := "arrive", desc := "(IIZZ)I" } : Jvm.MethodName) ({ cls := "LorryArms", name := "arrive", desc := "(IIZZ)I" } : Jvm.MethodName)) ∈ gw9 := gw9_in 680 (by decide +kernel) rfl
theorem w9_681 : (Jvm.Cond.code ({ cls := "LorryArms", name := "arrive", desc := "(IIZZ)I" } : Jvm.MethodName) prog_1_method_27_code (5 : Nat) (Option.some Jvm.ClassFile.FieldType.int)) ∈ gw9 := gw9_in 681 (by decide +kernel) rfl
theorem w9_683 : (Jvm.Cond.methodLink "LorryArmsLaw" (168 : Nat) ({ cls := "LorryArmsLaw", name := "loops", desc := "(LLorryArms;IZ)I" } : Jvm.MethodName)) ∈ gw9 := gw9_in 683 (by decide +kernel) rfl
theorem w9_684 : (Jvm.Cond.static ({ cls := "LorryArmsLaw", name := "loops", desc := "(LLorryArms;IZ)I" } : Jvm.MethodName)) ∈ gw9 := gw9_in 684 (by decide +kernel) rfl
theorem w9_685 : (Jvm.Cond.codeWith ({ cls := "LorryArmsLaw", name := "loops", desc := "(LLorryArms;IZ)I" } : Jvm.MethodName) method_3_code (4 : Nat) (Option.some Jvm.ClassFile.FieldType.int) [((0 : Nat), (6 : Nat), (7 : Nat), (13 : Nat))]) ∈ gw9 := gw9_in 685 (by decide +kernel) rfl
theorem w9_686 : (Jvm.Cond.methodLink "LorryArmsLaw" (22 : Nat) ({ cls := "LorryArms", name := "loop", desc := "(IZ)I" } : Jvm.MethodName)) ∈ gw9 := gw9_in 686 (by decide +kernel) rfl
theorem w9_687 : (Jvm.Cond.instanceMethod ({ cls := "LorryArms", name := "loop", desc := "(IZ)I" } : Jvm.MethodName)) ∈ gw9 := gw9_in 687 (by decide +kernel) rfl
theorem w9_688 : (Jvm.Cond.selects "LorryArms" ({ cls := "LorryArms", name := "loop", desc := "(IZ)I" } : Jvm.MethodName) ({ cls := "LorryArms", name := "loop", desc := "(IZ)I" } : Jvm.MethodName)) ∈ gw9 := gw9_in 688 (by decide +kernel) rfl
theorem w9_689 : (Jvm.Cond.code ({ cls := "LorryArms", name := "loop", desc := "(IZ)I" } : Jvm.MethodName) prog_1_method_28_code (3 : Nat) (Option.some Jvm.ClassFile.FieldType.int)) ∈ gw9 := gw9_in 689 (by decide +kernel) rfl
theorem w9_690 : (Jvm.Cond.methodLink "LorryArmsLaw" (172 : Nat) ({ cls := "LorryArmsLaw", name := "doScript", desc := "(LLorryArms;IJ)I" } : Jvm.MethodName)) ∈ gw9 := gw9_in 690 (by decide +kernel) rfl
theorem w9_691 : (Jvm.Cond.static ({ cls := "LorryArmsLaw", name := "doScript", desc := "(LLorryArms;IJ)I" } : Jvm.MethodName)) ∈ gw9 := gw9_in 691 (by decide +kernel) rfl
theorem w9_692 : (Jvm.Cond.codeWith ({ cls := "LorryArmsLaw", name := "doScript", desc := "(LLorryArms;IJ)I" } : Jvm.MethodName) method_4_code (5 : Nat) (Option.some Jvm.ClassFile.FieldType.int) [((0 : Nat), (6 : Nat), (7 : Nat), (16 : Nat))]) ∈ gw9 := gw9_in 692 (by decide +kernel) rfl
theorem w9_693 : (Jvm.Cond.methodLink "LorryArmsLaw" (26 : Nat) ({ cls := "LorryArms", name := "runScript", desc := "(IJ)I" } : Jvm.MethodName)) ∈ gw9 := gw9_in 693 (by decide +kernel) rfl
theorem w9_694 : (Jvm.Cond.instanceMethod ({ cls := "LorryArms", name := "runScript", desc := "(IJ)I" } : Jvm.MethodName)) ∈ gw9 := gw9_in 694 (by decide +kernel) rfl
theorem w9_695 : (Jvm.Cond.selects "LorryArms" ({ cls := "LorryArms", name := "runScript", desc := "(IJ)I" } : Jvm.MethodName) ({ cls := "LorryArms", name := "runScript", desc := "(IJ)I" } : Jvm.MethodName)) ∈ gw9 := gw9_in 695 (by decide +kernel) rfl
theorem w9_696 : (Jvm.Cond.code ({ cls := "LorryArms", name := "runScript", desc := "(IJ)I" } : Jvm.MethodName) prog_1_method_42_code (5 : Nat) (Option.some Jvm.ClassFile.FieldType.int)) ∈ gw9 := gw9_in 696 (by decide +kernel) rfl
theorem w9_698 : (Jvm.Cond.methodLink "LorryArms" (247 : Nat) ({ cls := "LorryArms", name := "withoutGroups", desc := "(JI)J" } : Jvm.MethodName)) ∈ gw9 := gw9_in 698 (by decide +kernel) rfl
theorem w9_699 : (Jvm.Cond.static ({ cls := "LorryArms", name := "withoutGroups", desc := "(JI)J" } : Jvm.MethodName)) ∈ gw9 := gw9_in 699 (by decide +kernel) rfl
theorem w9_700 : (Jvm.Cond.code ({ cls := "LorryArms", name := "withoutGroups", desc := "(JI)J" } : Jvm.MethodName) prog_1_method_44_code (6 : Nat) (Option.some Jvm.ClassFile.FieldType.long)) ∈ gw9 := gw9_in 700 (by decide +kernel) rfl
theorem w9_701 : (Jvm.Cond.constantLong "LorryArms" (253 : Nat) (100000 : Int64)) ∈ gw9 := gw9_in 701 (by decide +kernel) rfl
theorem w9_703 : (Jvm.Cond.methodLink "LorryArms" (255 : Nat) ({ cls := "LorryArms", name := "doGroup", desc := "(I)Z" } : Jvm.MethodName)) ∈ gw9 := gw9_in 703 (by decide +kernel) rfl
theorem w9_705 : (Jvm.Cond.instanceMethod ({ cls := "LorryArms", name := "doGroup", desc := "(I)Z" } : Jvm.MethodName)) ∈ gw9 := gw9_in 705 (by decide +kernel) rfl
theorem w9_706 : (Jvm.Cond.code ({ cls := "LorryArms", name := "doGroup", desc := "(I)Z" } : Jvm.MethodName) prog_1_method_45_code (6 : Nat) (Option.some Jvm.ClassFile.FieldType.boolean)) ∈ gw9 := gw9_in 706 (by decide +kernel) rfl
theorem w9_707 : (Jvm.Cond.constantLong "LorryArmsLaw" (176 : Nat) (100000 : Int64)) ∈ gw9 := gw9_in 707 (by decide +kernel) rfl
theorem w9_708 : (Jvm.Cond.methodLink "LorryArmsLaw" (178 : Nat) ({ cls := "LorryArmsLaw", name := "doSimulate", desc := "(LLorryArms;JI)I" } : Jvm.MethodName)) ∈ gw9 := gw9_in 708 (by decide +kernel) rfl
theorem w9_709 : (Jvm.Cond.static ({ cls := "LorryArmsLaw", name := "doSimulate", desc := "(LLorryArms;JI)I" } : Jvm.MethodName)) ∈ gw9 := gw9_in 709 (by decide +kernel) rfl
theorem w9_710 : (Jvm.Cond.codeWith ({ cls := "LorryArmsLaw", name := "doSimulate", desc := "(LLorryArms;JI)I" } : Jvm.MethodName) method_5_code (5 : Nat) (Option.some Jvm.ClassFile.FieldType.int) [((0 : Nat), (6 : Nat), (7 : Nat), (16 : Nat))]) ∈ gw9 := gw9_in 710 (by decide +kernel) rfl
theorem w9_711 : (Jvm.Cond.methodLink "LorryArmsLaw" (30 : Nat) ({ cls := "LorryArms", name := "simulate", desc := "(JI)I" } : Jvm.MethodName)) ∈ gw9 := gw9_in 711 (by decide +kernel) rfl
theorem w9_712 : (Jvm.Cond.instanceMethod ({ cls := "LorryArms", name := "simulate", desc := "(JI)I" } : Jvm.MethodName)) ∈ gw9 := gw9_in 712 (by decide +kernel) rfl
theorem w9_713 : (Jvm.Cond.selects "LorryArms" ({ cls := "LorryArms", name := "simulate", desc := "(JI)I" } : Jvm.MethodName) ({ cls := "LorryArms", name := "simulate", desc := "(JI)I" } : Jvm.MethodName)) ∈ gw9 := gw9_in 713 (by decide +kernel) rfl
theorem w9_714 : (Jvm.Cond.code ({ cls := "LorryArms", name := "simulate", desc := "(JI)I" } : Jvm.MethodName) prog_1_method_43_code (9 : Nat) (Option.some Jvm.ClassFile.FieldType.int)) ∈ gw9 := gw9_in 714 (by decide +kernel) rfl
theorem w9_716 : (Jvm.Cond.constantLong "LorryArms" (260 : Nat) (6364136223846793005 : Int64)) ∈ gw9 := gw9_in 716 (by decide +kernel) rfl
theorem w9_717 : (Jvm.Cond.constantLong "LorryArms" (262 : Nat) (1442695040888963407 : Int64)) ∈ gw9 := gw9_in 717 (by decide +kernel) rfl
theorem w9_718 : (Jvm.Cond.methodLink "LorryArms" (264 : Nat) ({ cls := "LorryArms", name := "doTurn", desc := "(I)V" } : Jvm.MethodName)) ∈ gw9 := gw9_in 718 (by decide +kernel) rfl
theorem w9_720 : (Jvm.Cond.instanceMethod ({ cls := "LorryArms", name := "doTurn", desc := "(I)V" } : Jvm.MethodName)) ∈ gw9 := gw9_in 720 (by decide +kernel) rfl
theorem w9_721 : (Jvm.Cond.code ({ cls := "LorryArms", name := "doTurn", desc := "(I)V" } : Jvm.MethodName) prog_1_method_46_code (3 : Nat) (Option.none : Option Jvm.ClassFile.FieldType)) ∈ gw9 := gw9_in 721 (by decide +kernel) rfl
theorem w9_722 : (Jvm.Cond.methodLink "LorryArms" (267 : Nat) ({ cls := "java/lang/Math", name := "min", desc := "(II)I" } : Jvm.MethodName)) ∈ gw9 := gw9_in 722 (by decide +kernel) rfl
theorem w9_723 : (Jvm.Cond.methodLink "LorryArmsLaw" (199 : Nat) ({ cls := "LorryArmsLaw", name := "holds", desc := "(LLorryArms;)Z" } : Jvm.MethodName)) ∈ gw9 := gw9_in 723 (by decide +kernel) rfl
theorem w9_724 : (Jvm.Cond.static ({ cls := "LorryArmsLaw", name := "holds", desc := "(LLorryArms;)Z" } : Jvm.MethodName)) ∈ gw9 := gw9_in 724 (by decide +kernel) rfl
theorem w9_725 : (Jvm.Cond.code ({ cls := "LorryArmsLaw", name := "holds", desc := "(LLorryArms;)Z" } : Jvm.MethodName) method_29_code (15 : Nat) (Option.some Jvm.ClassFile.FieldType.boolean)) ∈ gw9 := gw9_in 725 (by decide +kernel) rfl
theorem w9_726 : (Jvm.Cond.methodLink "LorryArmsLaw" (187 : Nat) ({ cls := "LorryArmsLaw", name := "act", desc := "(LLorryArms;I)I" } : Jvm.MethodName)) ∈ gw9 := gw9_in 726 (by decide +kernel) rfl
theorem w9_727 : (Jvm.Cond.static ({ cls := "LorryArmsLaw", name := "act", desc := "(LLorryArms;I)I" } : Jvm.MethodName)) ∈ gw9 := gw9_in 727 (by decide +kernel) rfl
theorem w9_728 : (Jvm.Cond.code ({ cls := "LorryArmsLaw", name := "act", desc := "(LLorryArms;I)I" } : Jvm.MethodName) method_30_code (4 : Nat) (Option.some Jvm.ClassFile.FieldType.int)) ∈ gw9 := gw9_in 728 (by decide +kernel) rfl
theorem w9_729 : (Jvm.Cond.methodLink "LorryArmsLaw" (195 : Nat) ({ cls := "LorryArmsLaw", name := "alike", desc := "(LLorryArms;LLorryArms;I)Z" } : Jvm.MethodName)) ∈ gw9 := gw9_in 729 (by decide +kernel) rfl
theorem w9_730 : (Jvm.Cond.static ({ cls := "LorryArmsLaw", name := "alike", desc := "(LLorryArms;LLorryArms;I)Z" } : Jvm.MethodName)) ∈ gw9 := gw9_in 730 (by decide +kernel) rfl
theorem w9_731 : (Jvm.Cond.code ({ cls := "LorryArmsLaw", name := "alike", desc := "(LLorryArms;LLorryArms;I)Z" } : Jvm.MethodName) method_31_code (7 : Nat) (Option.some Jvm.ClassFile.FieldType.boolean)) ∈ gw9 := gw9_in 731 (by decide +kernel) rfl
theorem w9_732 : (Jvm.Cond.methodLink "LorryArmsLaw" (207 : Nat) ({ cls := "LorryArmsLaw", name := "lorry", desc := "(LLorryArms;LLorryArms;II)Z" } : Jvm.MethodName)) ∈ gw9 := gw9_in 732 (by decide +kernel) rfl
theorem w9_733 : (Jvm.Cond.static ({ cls := "LorryArmsLaw", name := "lorry", desc := "(LLorryArms;LLorryArms;II)Z" } : Jvm.MethodName)) ∈ gw9 := gw9_in 733 (by decide +kernel) rfl
theorem w9_734 : (Jvm.Cond.code ({ cls := "LorryArmsLaw", name := "lorry", desc := "(LLorryArms;LLorryArms;II)Z" } : Jvm.MethodName) method_34_code (11 : Nat) (Option.some Jvm.ClassFile.FieldType.boolean)) ∈ gw9 := gw9_in 734 (by decide +kernel) rfl
theorem w9_735 : (Jvm.Cond.methodLink "LorryArmsLaw" (211 : Nat) ({ cls := "LorryArmsLaw", name := "breaks", desc := "(LLorryArms;II)Z" } : Jvm.MethodName)) ∈ gw9 := gw9_in 735 (by decide +kernel) rfl
theorem w9_736 : (Jvm.Cond.static ({ cls := "LorryArmsLaw", name := "breaks", desc := "(LLorryArms;II)Z" } : Jvm.MethodName)) ∈ gw9 := gw9_in 736 (by decide +kernel) rfl
theorem w9_737 : (Jvm.Cond.code ({ cls := "LorryArmsLaw", name := "breaks", desc := "(LLorryArms;II)Z" } : Jvm.MethodName) method_33_code (4 : Nat) (Option.some Jvm.ClassFile.FieldType.boolean)) ∈ gw9 := gw9_in 737 (by decide +kernel) rfl
theorem w9_738 : (Jvm.Cond.constant "LorryArmsLaw" (190 : Nat) (100000 : Int32)) ∈ gw9 := gw9_in 738 (by decide +kernel) rfl
