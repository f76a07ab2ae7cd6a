section
-- ===== PART A: goes FIRST, ahead of the names: the tables' words, and 'selects' of the private methods out of them =====
/-- a private method of a class that the tables say can be made, by its rows of tables_1 -/
def lw_okq (q : MethodName × Nat) : Prop := (q.1.cls ≠ "java/lang/invoke/MethodHandle" ∧ q.1.cls ≠ "java/lang/invoke/VarHandle") ∧ Cond.instantiable q.1.cls q.2 ∈ tables_1 ∧ Cond.privateMethod q.1 ∈ tables_1 ∧ Cond.instanceMethod q.1 ∈ tables_1
theorem lw_p0 : lw_okq (⟨"LorryArms", "signAt", "(I)I"⟩, 9) := ⟨⟨by decide +kernel, by decide +kernel⟩, List.mem_of_getElem? (i := 14) (by decide +kernel), List.mem_of_getElem? (i := 159) (by decide +kernel), List.mem_of_getElem? (i := 160) (by decide +kernel)⟩
theorem lw_p1 : lw_okq (⟨"LorryArms", "wrongSignOf", "(I)I"⟩, 9) := ⟨⟨by decide +kernel, by decide +kernel⟩, List.mem_of_getElem? (i := 14) (by decide +kernel), List.mem_of_getElem? (i := 163) (by decide +kernel), List.mem_of_getElem? (i := 164) (by decide +kernel)⟩
theorem lw_p2 : lw_okq (⟨"LorryArms", "commandLength", "(I)I"⟩, 9) := ⟨⟨by decide +kernel, by decide +kernel⟩, List.mem_of_getElem? (i := 14) (by decide +kernel), List.mem_of_getElem? (i := 182) (by decide +kernel), List.mem_of_getElem? (i := 183) (by decide +kernel)⟩
theorem lw_p3 : lw_okq (⟨"java/lang/Throwable", "fillInStackTrace", "(I)Ljava/lang/Throwable;"⟩, 6) := ⟨⟨by decide +kernel, by decide +kernel⟩, List.mem_of_getElem? (i := 233) (by decide +kernel), List.mem_of_getElem? (i := 231) (by decide +kernel), List.mem_of_getElem? (i := 232) (by decide +kernel)⟩
theorem lw_p4 : lw_okq (⟨"LorryArms", "forgetAll", "()V"⟩, 9) := ⟨⟨by decide +kernel, by decide +kernel⟩, List.mem_of_getElem? (i := 14) (by decide +kernel), List.mem_of_getElem? (i := 289) (by decide +kernel), List.mem_of_getElem? (i := 290) (by decide +kernel)⟩
theorem lw_p5 : lw_okq (⟨"LorryArms", "doCommand", "(I)Z"⟩, 9) := ⟨⟨by decide +kernel, by decide +kernel⟩, List.mem_of_getElem? (i := 14) (by decide +kernel), List.mem_of_getElem? (i := 293) (by decide +kernel), List.mem_of_getElem? (i := 294) (by decide +kernel)⟩
theorem lw_p6 : lw_okq (⟨"LorryArms", "doArrival", "(I)Z"⟩, 9) := ⟨⟨by decide +kernel, by decide +kernel⟩, List.mem_of_getElem? (i := 14) (by decide +kernel), List.mem_of_getElem? (i := 302) (by decide +kernel), List.mem_of_getElem? (i := 303) (by decide +kernel)⟩
theorem lw_p7 : lw_okq (⟨"LorryArms", "digitAt", "(I)I"⟩, 9) := ⟨⟨by decide +kernel, by decide +kernel⟩, List.mem_of_getElem? (i := 14) (by decide +kernel), List.mem_of_getElem? (i := 306) (by decide +kernel), List.mem_of_getElem? (i := 307) (by decide +kernel)⟩
theorem lw_p8 : lw_okq (⟨"LorryArms", "twoDigitsAt", "(I)I"⟩, 9) := ⟨⟨by decide +kernel, by decide +kernel⟩, List.mem_of_getElem? (i := 14) (by decide +kernel), List.mem_of_getElem? (i := 310) (by decide +kernel), List.mem_of_getElem? (i := 311) (by decide +kernel)⟩
theorem lw_p9 : lw_okq (⟨"LorryArms$Lane", "lastCell", "(I)I"⟩, 17) := ⟨⟨by decide +kernel, by decide +kernel⟩, List.mem_of_getElem? (i := 29) (by decide +kernel), List.mem_of_getElem? (i := 326) (by decide +kernel), List.mem_of_getElem? (i := 327) (by decide +kernel)⟩
theorem lw_p10 : lw_okq (⟨"LorryArms$Lane", "isUnderArm", "()Z"⟩, 17) := ⟨⟨by decide +kernel, by decide +kernel⟩, List.mem_of_getElem? (i := 29) (by decide +kernel), List.mem_of_getElem? (i := 345) (by decide +kernel), List.mem_of_getElem? (i := 346) (by decide +kernel)⟩
theorem lw_p11 : lw_okq (⟨"LorryArms$Lane", "moveVehicles", "()V"⟩, 17) := ⟨⟨by decide +kernel, by decide +kernel⟩, List.mem_of_getElem? (i := 29) (by decide +kernel), List.mem_of_getElem? (i := 357) (by decide +kernel), List.mem_of_getElem? (i := 358) (by decide +kernel)⟩
theorem lw_p12 : lw_okq (⟨"LorryArms$Lane", "canMove", "(I)Z"⟩, 17) := ⟨⟨by decide +kernel, by decide +kernel⟩, List.mem_of_getElem? (i := 29) (by decide +kernel), List.mem_of_getElem? (i := 361) (by decide +kernel), List.mem_of_getElem? (i := 362) (by decide +kernel)⟩
theorem lw_p13 : lw_okq (⟨"LorryArms$Lane", "removeFirst", "()V"⟩, 17) := ⟨⟨by decide +kernel, by decide +kernel⟩, List.mem_of_getElem? (i := 29) (by decide +kernel), List.mem_of_getElem? (i := 365) (by decide +kernel), List.mem_of_getElem? (i := 366) (by decide +kernel)⟩
theorem lw_p14 : lw_okq (⟨"LorryArms$Lane", "copyVehicle", "(LLorryArms$Lane;II)V"⟩, 17) := ⟨⟨by decide +kernel, by decide +kernel⟩, List.mem_of_getElem? (i := 29) (by decide +kernel), List.mem_of_getElem? (i := 369) (by decide +kernel), List.mem_of_getElem? (i := 370) (by decide +kernel)⟩
theorem lw_p15 : lw_okq (⟨"LorryArms$Lane", "checkTicket", "(III)V"⟩, 17) := ⟨⟨by decide +kernel, by decide +kernel⟩, List.mem_of_getElem? (i := 29) (by decide +kernel), List.mem_of_getElem? (i := 373) (by decide +kernel), List.mem_of_getElem? (i := 374) (by decide +kernel)⟩
def lw_privs_1 : List (MethodName × Nat) := [(⟨"LorryArms", "signAt", "(I)I"⟩, 9), (⟨"LorryArms", "wrongSignOf", "(I)I"⟩, 9), (⟨"LorryArms", "commandLength", "(I)I"⟩, 9), (⟨"java/lang/Throwable", "fillInStackTrace", "(I)Ljava/lang/Throwable;"⟩, 6), (⟨"LorryArms", "forgetAll", "()V"⟩, 9), (⟨"LorryArms", "doCommand", "(I)Z"⟩, 9), (⟨"LorryArms", "doArrival", "(I)Z"⟩, 9), (⟨"LorryArms", "digitAt", "(I)I"⟩, 9), (⟨"LorryArms", "twoDigitsAt", "(I)I"⟩, 9), (⟨"LorryArms$Lane", "lastCell", "(I)I"⟩, 17), (⟨"LorryArms$Lane", "isUnderArm", "()Z"⟩, 17), (⟨"LorryArms$Lane", "moveVehicles", "()V"⟩, 17), (⟨"LorryArms$Lane", "canMove", "(I)Z"⟩, 17), (⟨"LorryArms$Lane", "removeFirst", "()V"⟩, 17), (⟨"LorryArms$Lane", "copyVehicle", "(LLorryArms$Lane;II)V"⟩, 17), (⟨"LorryArms$Lane", "checkTicket", "(III)V"⟩, 17)]
theorem lw_r1 : ∀ q ∈ lw_privs_1, lw_okq q := List.forall_mem_cons.mpr ⟨lw_p0, List.forall_mem_cons.mpr ⟨lw_p1, List.forall_mem_cons.mpr ⟨lw_p2, List.forall_mem_cons.mpr ⟨lw_p3, List.forall_mem_cons.mpr ⟨lw_p4, List.forall_mem_cons.mpr ⟨lw_p5, List.forall_mem_cons.mpr ⟨lw_p6, List.forall_mem_cons.mpr ⟨lw_p7, List.forall_mem_cons.mpr ⟨lw_p8, List.forall_mem_cons.mpr ⟨lw_p9, List.forall_mem_cons.mpr ⟨lw_p10, List.forall_mem_cons.mpr ⟨lw_p11, List.forall_mem_cons.mpr ⟨lw_p12, List.forall_mem_cons.mpr ⟨lw_p13, List.forall_mem_cons.mpr ⟨lw_p14, List.forall_mem_cons.mpr ⟨lw_p15, fun _ h => absurd h List.not_mem_nil⟩⟩⟩⟩⟩⟩⟩⟩⟩⟩⟩⟩⟩⟩⟩⟩
theorem lw_p16 : lw_okq (⟨"LorryArms$Lane", "vehicleInCheck", "()I"⟩, 17) := ⟨⟨by decide +kernel, by decide +kernel⟩, List.mem_of_getElem? (i := 29) (by decide +kernel), List.mem_of_getElem? (i := 377) (by decide +kernel), List.mem_of_getElem? (i := 378) (by decide +kernel)⟩
theorem lw_p17 : lw_okq (⟨"LorryArms$Lane", "letVehicleWaits", "()Z"⟩, 17) := ⟨⟨by decide +kernel, by decide +kernel⟩, List.mem_of_getElem? (i := 29) (by decide +kernel), List.mem_of_getElem? (i := 385) (by decide +kernel), List.mem_of_getElem? (i := 386) (by decide +kernel)⟩
theorem lw_p18 : lw_okq (⟨"LorryArms$Lane", "isLoopCovered", "()Z"⟩, 17) := ⟨⟨by decide +kernel, by decide +kernel⟩, List.mem_of_getElem? (i := 29) (by decide +kernel), List.mem_of_getElem? (i := 389) (by decide +kernel), List.mem_of_getElem? (i := 390) (by decide +kernel)⟩
theorem lw_p19 : lw_okq (⟨"LorryArms$Lane", "moveArm", "(Z)V"⟩, 17) := ⟨⟨by decide +kernel, by decide +kernel⟩, List.mem_of_getElem? (i := 29) (by decide +kernel), List.mem_of_getElem? (i := 393) (by decide +kernel), List.mem_of_getElem? (i := 394) (by decide +kernel)⟩
theorem lw_p20 : lw_okq (⟨"LorryArms$Lane", "hitIfUnderArm", "()V"⟩, 17) := ⟨⟨by decide +kernel, by decide +kernel⟩, List.mem_of_getElem? (i := 29) (by decide +kernel), List.mem_of_getElem? (i := 400) (by decide +kernel), List.mem_of_getElem? (i := 401) (by decide +kernel)⟩
theorem lw_p21 : lw_okq (⟨"LorryArms$Lane", "countThrough", "()V"⟩, 17) := ⟨⟨by decide +kernel, by decide +kernel⟩, List.mem_of_getElem? (i := 29) (by decide +kernel), List.mem_of_getElem? (i := 404) (by decide +kernel), List.mem_of_getElem? (i := 405) (by decide +kernel)⟩
theorem lw_p22 : lw_okq (⟨"LorryArms", "checkLane", "(I)V"⟩, 9) := ⟨⟨by decide +kernel, by decide +kernel⟩, List.mem_of_getElem? (i := 14) (by decide +kernel), List.mem_of_getElem? (i := 432) (by decide +kernel), List.mem_of_getElem? (i := 433) (by decide +kernel)⟩
theorem lw_p23 : lw_okq (⟨"LorryArms$Lane", "countUnlet", "()I"⟩, 17) := ⟨⟨by decide +kernel, by decide +kernel⟩, List.mem_of_getElem? (i := 29) (by decide +kernel), List.mem_of_getElem? (i := 458) (by decide +kernel), List.mem_of_getElem? (i := 459) (by decide +kernel)⟩
theorem lw_p24 : lw_okq (⟨"LorryArms", "checkVehicle", "(II)V"⟩, 9) := ⟨⟨by decide +kernel, by decide +kernel⟩, List.mem_of_getElem? (i := 14) (by decide +kernel), List.mem_of_getElem? (i := 469) (by decide +kernel), List.mem_of_getElem? (i := 470) (by decide +kernel)⟩
theorem lw_p25 : lw_okq (⟨"LorryArms", "remember", "()V"⟩, 9) := ⟨⟨by decide +kernel, by decide +kernel⟩, List.mem_of_getElem? (i := 14) (by decide +kernel), List.mem_of_getElem? (i := 508) (by decide +kernel), List.mem_of_getElem? (i := 509) (by decide +kernel)⟩
theorem lw_p26 : lw_okq (⟨"LorryArms", "copyThroughIn", "(II)I"⟩, 9) := ⟨⟨by decide +kernel, by decide +kernel⟩, List.mem_of_getElem? (i := 14) (by decide +kernel), List.mem_of_getElem? (i := 598) (by decide +kernel), List.mem_of_getElem? (i := 599) (by decide +kernel)⟩
theorem lw_p27 : lw_okq (⟨"LorryArms", "doGroup", "(I)Z"⟩, 9) := ⟨⟨by decide +kernel, by decide +kernel⟩, List.mem_of_getElem? (i := 14) (by decide +kernel), List.mem_of_getElem? (i := 645) (by decide +kernel), List.mem_of_getElem? (i := 646) (by decide +kernel)⟩
theorem lw_p28 : lw_okq (⟨"LorryArms", "doTurn", "(I)V"⟩, 9) := ⟨⟨by decide +kernel, by decide +kernel⟩, List.mem_of_getElem? (i := 14) (by decide +kernel), List.mem_of_getElem? (i := 659) (by decide +kernel), List.mem_of_getElem? (i := 660) (by decide +kernel)⟩
theorem lw_p29 : lw_okq (⟨"LorryArmsModel", "refused", "(I)Z"⟩, 13) := ⟨⟨by decide +kernel, by decide +kernel⟩, List.mem_of_getElem? (i := 683) (by decide +kernel), List.mem_of_getElem? (i := 744) (by decide +kernel), List.mem_of_getElem? (i := 745) (by decide +kernel)⟩
theorem lw_p30 : lw_okq (⟨"LorryArmsModel", "readText", "([I)I"⟩, 13) := ⟨⟨by decide +kernel, by decide +kernel⟩, List.mem_of_getElem? (i := 683) (by decide +kernel), List.mem_of_getElem? (i := 756) (by decide +kernel), List.mem_of_getElem? (i := 757) (by decide +kernel)⟩
theorem lw_p31 : lw_okq (⟨"LorryArmsModel", "at", "(I)I"⟩, 13) := ⟨⟨by decide +kernel, by decide +kernel⟩, List.mem_of_getElem? (i := 683) (by decide +kernel), List.mem_of_getElem? (i := 760) (by decide +kernel), List.mem_of_getElem? (i := 761) (by decide +kernel)⟩
def lw_privs_2 : List (MethodName × Nat) := [(⟨"LorryArms$Lane", "vehicleInCheck", "()I"⟩, 17), (⟨"LorryArms$Lane", "letVehicleWaits", "()Z"⟩, 17), (⟨"LorryArms$Lane", "isLoopCovered", "()Z"⟩, 17), (⟨"LorryArms$Lane", "moveArm", "(Z)V"⟩, 17), (⟨"LorryArms$Lane", "hitIfUnderArm", "()V"⟩, 17), (⟨"LorryArms$Lane", "countThrough", "()V"⟩, 17), (⟨"LorryArms", "checkLane", "(I)V"⟩, 9), (⟨"LorryArms$Lane", "countUnlet", "()I"⟩, 17), (⟨"LorryArms", "checkVehicle", "(II)V"⟩, 9), (⟨"LorryArms", "remember", "()V"⟩, 9), (⟨"LorryArms", "copyThroughIn", "(II)I"⟩, 9), (⟨"LorryArms", "doGroup", "(I)Z"⟩, 9), (⟨"LorryArms", "doTurn", "(I)V"⟩, 9), (⟨"LorryArmsModel", "refused", "(I)Z"⟩, 13), (⟨"LorryArmsModel", "readText", "([I)I"⟩, 13), (⟨"LorryArmsModel", "at", "(I)I"⟩, 13)]
theorem lw_r2 : ∀ q ∈ lw_privs_2, lw_okq q := List.forall_mem_cons.mpr ⟨lw_p16, List.forall_mem_cons.mpr ⟨lw_p17, List.forall_mem_cons.mpr ⟨lw_p18, List.forall_mem_cons.mpr ⟨lw_p19, List.forall_mem_cons.mpr ⟨lw_p20, List.forall_mem_cons.mpr ⟨lw_p21, List.forall_mem_cons.mpr ⟨lw_p22, List.forall_mem_cons.mpr ⟨lw_p23, List.forall_mem_cons.mpr ⟨lw_p24, List.forall_mem_cons.mpr ⟨lw_p25, List.forall_mem_cons.mpr ⟨lw_p26, List.forall_mem_cons.mpr ⟨lw_p27, List.forall_mem_cons.mpr ⟨lw_p28, List.forall_mem_cons.mpr ⟨lw_p29, List.forall_mem_cons.mpr ⟨lw_p30, List.forall_mem_cons.mpr ⟨lw_p31, fun _ h => absurd h List.not_mem_nil⟩⟩⟩⟩⟩⟩⟩⟩⟩⟩⟩⟩⟩⟩⟩⟩
theorem lw_p32 : lw_okq (⟨"LorryArmsModel", "readCommand", "([I)Z"⟩, 13) := ⟨⟨by decide +kernel, by decide +kernel⟩, List.mem_of_getElem? (i := 683) (by decide +kernel), List.mem_of_getElem? (i := 764) (by decide +kernel), List.mem_of_getElem? (i := 765) (by decide +kernel)⟩
theorem lw_p33 : lw_okq (⟨"LorryArmsModel", "done", "(Z)Z"⟩, 13) := ⟨⟨by decide +kernel, by decide +kernel⟩, List.mem_of_getElem? (i := 683) (by decide +kernel), List.mem_of_getElem? (i := 774) (by decide +kernel), List.mem_of_getElem? (i := 775) (by decide +kernel)⟩
theorem lw_p34 : lw_okq (⟨"LorryArmsModel", "figures", "(IIII)I"⟩, 13) := ⟨⟨by decide +kernel, by decide +kernel⟩, List.mem_of_getElem? (i := 683) (by decide +kernel), List.mem_of_getElem? (i := 778) (by decide +kernel), List.mem_of_getElem? (i := 779) (by decide +kernel)⟩
theorem lw_p35 : lw_okq (⟨"LorryArmsModel", "sign", "(I)Z"⟩, 13) := ⟨⟨by decide +kernel, by decide +kernel⟩, List.mem_of_getElem? (i := 683) (by decide +kernel), List.mem_of_getElem? (i := 783) (by decide +kernel), List.mem_of_getElem? (i := 784) (by decide +kernel)⟩
theorem lw_p36 : lw_okq (⟨"LorryArmsModel", "runOn", "([II)I"⟩, 13) := ⟨⟨by decide +kernel, by decide +kernel⟩, List.mem_of_getElem? (i := 683) (by decide +kernel), List.mem_of_getElem? (i := 831) (by decide +kernel), List.mem_of_getElem? (i := 832) (by decide +kernel)⟩
theorem lw_p37 : lw_okq (⟨"LorryArmsModel", "tickOn", "([I)V"⟩, 13) := ⟨⟨by decide +kernel, by decide +kernel⟩, List.mem_of_getElem? (i := 683) (by decide +kernel), List.mem_of_getElem? (i := 835) (by decide +kernel), List.mem_of_getElem? (i := 836) (by decide +kernel)⟩
theorem lw_p38 : lw_okq (⟨"LorryArmsModel", "moveAll", "([II)V"⟩, 13) := ⟨⟨by decide +kernel, by decide +kernel⟩, List.mem_of_getElem? (i := 683) (by decide +kernel), List.mem_of_getElem? (i := 839) (by decide +kernel), List.mem_of_getElem? (i := 840) (by decide +kernel)⟩
theorem lw_p39 : lw_okq (⟨"LorryArmsModel", "goThrough", "([II)V"⟩, 13) := ⟨⟨by decide +kernel, by decide +kernel⟩, List.mem_of_getElem? (i := 683) (by decide +kernel), List.mem_of_getElem? (i := 864) (by decide +kernel), List.mem_of_getElem? (i := 865) (by decide +kernel)⟩
theorem lw_p40 : lw_okq (⟨"LorryArmsModel", "remember", "()V"⟩, 13) := ⟨⟨by decide +kernel, by decide +kernel⟩, List.mem_of_getElem? (i := 683) (by decide +kernel), List.mem_of_getElem? (i := 907) (by decide +kernel), List.mem_of_getElem? (i := 908) (by decide +kernel)⟩
theorem lw_p41 : lw_okq (⟨"LorryArmsModel", "through", "([III)I"⟩, 13) := ⟨⟨by decide +kernel, by decide +kernel⟩, List.mem_of_getElem? (i := 683) (by decide +kernel), List.mem_of_getElem? (i := 948) (by decide +kernel), List.mem_of_getElem? (i := 949) (by decide +kernel)⟩
theorem lw_p42 : lw_okq (⟨"LorryArmsModel", "command", "(II)Z"⟩, 13) := ⟨⟨by decide +kernel, by decide +kernel⟩, List.mem_of_getElem? (i := 683) (by decide +kernel), List.mem_of_getElem? (i := 971) (by decide +kernel), List.mem_of_getElem? (i := 972) (by decide +kernel)⟩
theorem lw_p43 : lw_okq (⟨"LorryArmsModel", "turn", "(I)V"⟩, 13) := ⟨⟨by decide +kernel, by decide +kernel⟩, List.mem_of_getElem? (i := 683) (by decide +kernel), List.mem_of_getElem? (i := 981) (by decide +kernel), List.mem_of_getElem? (i := 982) (by decide +kernel)⟩
def lw_privs_3 : List (MethodName × Nat) := [(⟨"LorryArmsModel", "readCommand", "([I)Z"⟩, 13), (⟨"LorryArmsModel", "done", "(Z)Z"⟩, 13), (⟨"LorryArmsModel", "figures", "(IIII)I"⟩, 13), (⟨"LorryArmsModel", "sign", "(I)Z"⟩, 13), (⟨"LorryArmsModel", "runOn", "([II)I"⟩, 13), (⟨"LorryArmsModel", "tickOn", "([I)V"⟩, 13), (⟨"LorryArmsModel", "moveAll", "([II)V"⟩, 13), (⟨"LorryArmsModel", "goThrough", "([II)V"⟩, 13), (⟨"LorryArmsModel", "remember", "()V"⟩, 13), (⟨"LorryArmsModel", "through", "([III)I"⟩, 13), (⟨"LorryArmsModel", "command", "(II)Z"⟩, 13), (⟨"LorryArmsModel", "turn", "(I)V"⟩, 13)]
theorem lw_r3 : ∀ q ∈ lw_privs_3, lw_okq q := List.forall_mem_cons.mpr ⟨lw_p32, List.forall_mem_cons.mpr ⟨lw_p33, List.forall_mem_cons.mpr ⟨lw_p34, List.forall_mem_cons.mpr ⟨lw_p35, List.forall_mem_cons.mpr ⟨lw_p36, List.forall_mem_cons.mpr ⟨lw_p37, List.forall_mem_cons.mpr ⟨lw_p38, List.forall_mem_cons.mpr ⟨lw_p39, List.forall_mem_cons.mpr ⟨lw_p40, List.forall_mem_cons.mpr ⟨lw_p41, List.forall_mem_cons.mpr ⟨lw_p42, List.forall_mem_cons.mpr ⟨lw_p43, fun _ h => absurd h List.not_mem_nil⟩⟩⟩⟩⟩⟩⟩⟩⟩⟩⟩⟩
def lw_privs : List (MethodName × Nat) := lw_privs_1 ++ (lw_privs_2 ++ (lw_privs_3))
def lw_tbl : List Cond := k2_sels lw_privs ++ tables_1
theorem lw_privs_ok : ∀ q ∈ lw_privs, lw_okq q := by
  show ∀ q ∈ lw_privs_1 ++ (lw_privs_2 ++ (lw_privs_3)), lw_okq q
  exact List.forall_mem_append.mpr ⟨lw_r1, List.forall_mem_append.mpr ⟨lw_r2, lw_r3⟩⟩
-- ===== end of PART A; then your names; then what follows =====
/-! ===== BEGIN words of one list among another's, by their places ===== -/
theorem goodIn_r {big : List Cond} (ws : List Cond) (ps : List Nat) (hp : ws = ps.filterMap (fun i => big[i]?)) (h : ws.all goodWord = true) : GoodIn big ws := by
  intro w hw
  have h1 := List.all_eq_true.mp h w hw
  rw [hp] at hw
  obtain ⟨i, -, hi⟩ := List.mem_filterMap.mp hw
  have hm : w ∈ big := by first | exact List.mem_of_getElem? hi | exact List.getElem?_mem hi
  exact ⟨hm, good_of_word h1⟩
theorem goodIn_app {big a b : List Cond} (ha : GoodIn big a) (hb : GoodIn big b) : GoodIn big (a ++ b) := fun w h => (List.mem_append.mp h).elim (ha w) (hb w)
theorem goodIn_ca {big a b : List Cond} {c : Cond} (ha : GoodIn big (c :: a)) (hb : GoodIn big b) : GoodIn big (c :: (a ++ b)) := fun w h => (List.mem_cons.mp h).elim (fun e => ha w (List.mem_cons.mpr (Or.inl e))) (fun h => (List.mem_append.mp h).elim (fun h => ha w (List.mem_cons.mpr (Or.inr h))) (hb w))
theorem goodIn_sub {big ws : List Cond} (hm : ∀ w ∈ ws, w ∈ big) (h : ws.all goodWord = true) : GoodIn big ws := fun w hw => ⟨hm w hw, good_of_word (List.all_eq_true.mp h w hw)⟩
/-! ===== END ===== -/

/-! ===== BEGIN exceptions that leave a method, and their catching by the caller (launches without stack traces) ===== -/
section VXA
/-! The laws vx_back, vx_callV, vx_callS, vx_callSW, vx_throw0, vx_throwS follow proofs of the library, with one case more: JvmDerived/Free/Laws.lean (Back.of_free), Shelf42/LK1.lean (callV, callS), Shelf/KitTraced.lean (throwNew0V, throwNewS). -/
/-- where a method has thrown q: the class by its name, the cell, what was written, the world -/
def vx_T (XC : String → State → State → Prop) (st : State) (q : Addr) (t : State) (mc ms : Nat) (free : Addr → Prop) : Prop :=
  ∃ (E : String) (ce : Cell) (L : List Loc), XC E st t ∧ t.heap[q]? = some ce ∧ ce.vm = .none ∧ st.vm.findClass E = some ce.cls ∧ st.WarmedH t.vm ∧ st.sameButNew ({ t with vm := st.vm } : State) L mc ms ∧ ∀ z ∈ L, free z.base
def vx_Q (Qc : Array Value → State → Outcome → State → Prop) (XC : String → State → State → Prop) (mc ms : Nat) (free : Addr → Prop) : Array Value → State → Outcome → State → Prop := fun a st o t =>
  (Qc a st o t ∧ ∃ L, FrameEnd st o t L mc ms ∧ ∀ q ∈ L, free q.base) ∨ ∃ q, o = .threw q ∧ vx_T XC st q t mc ms free
/-- a callee that returns or throws -/
def vx_Met (l : Launch) (y : MethodName) (ws : List Cond) (rm : Room) (Pc : Array Value → State → Prop) (Qc : Array Value → State → Outcome → State → Prop) (XC : String → State → State → Prop) (mc ms : Nat) (free : Addr → Prop) : Prop :=
  MetFree l y (headSpec ws rm) Pc (fun _ _ _ _ _ => True) (vx_Q Qc XC mc ms free)
def vx_Post (XC : String → State → State → Prop) (mc ms : Nat) (free : Addr → Prop) : Pt → Array Value → Addr → Pt → Prop := fun A a q B =>
  ∃ (g : JFrame) (mk : MethodId) (t : State) (L : List Loc) (E : String) (ce : Cell), B.U.heap = t.heap ∧ B.U.vm = t.vm ∧ XC E (A.U.calling g mk a) t ∧ t.heap[q]? = some ce ∧ ce.vm = .none ∧ A.U.vm.findClass E = some ce.cls ∧ B.locs = A.locs ++ L ∧ (∀ z ∈ L, free z.base) ∧ B.cells = A.cells + mc ∧ B.slots = A.slots + ms
def vx_Back (l : Launch) (R : Room) (p : Program) (e : Env) (below : List Frame) (s : State) (sargs : Array Value) (y : MethodName) (len W9 : Nat)
    (Pre : Pt → Array Value → Prop) (Post : Pt → Array Value → Option Value → Pt → Prop) (PostX : Pt → Array Value → Addr → Pt → Prop) : Prop :=
  ∀ (m : MethodId) (meth : Method) (c : Code) (A : Pt) (g : JFrame) (ig : Instr) (mk : MethodId) (a : Array Value),
    Stand p l e R s m sargs below meth c A.U A.locs A.cells A.slots → g.method = m → g.locals.size = c.maxLocals → decode c.code g.pc = .ok (ig, len) →
    2 * g.monitorRoom + (g.stack.map fun v => v.category).sum ≤ W9 → A.U.methodNamed? y = some mk → Pre A a →
    (∃ (v : Option Value) (B : Pt), Stand p l e R s m sargs below meth c B.U B.locs B.cells B.slots ∧ Post A a v B ∧
      Steps p.tables e below (doInvoke e (A.U.setTop g) [] mk a).1 (B.U.setTop { g with pc := g.pc + len, stack := v.toList ++ g.stack })) ∨
    (∃ (q : Addr) (B : Pt), Stand p l e R s m sargs below meth c B.U B.locs B.cells B.slots ∧ PostX A a q B ∧
      Steps p.tables e below (doInvoke e (A.U.setTop g) [] mk a).1 ((B.U.setTop g).pushFrame (.throwing q)))
section Payer
variable {l : Launch} {R : Room} {p : Program} {e : Env} {below : List Frame} {s : State} {sargs : Array Value} {y : MethodName} {len W9 : Nat}
theorem vx_back {ws : List Cond} {rm : Room} {Pc : Array Value → State → Prop} {Qc : Array Value → State → Outcome → State → Prop} {XC : String → State → State → Prop} {mc ms : Nat} {free : Addr → Prop} {bytes : ByteArray} {maxL : Nat} {ret : Option FieldType}
    (hM : vx_Met l y ws rm Pc Qc XC mc ms free) (hblind : FrameBlind Pc) (hrc : rm.cells = mc) (hrs : rm.slots = ms)
    (hframes : rm.frames + 1 ≤ R.frames) (hlocals : W9 + (maxL + 11) + rm.locals ≤ R.locals)
    (hws : ∀ w ∈ ws, ∀ a' U, s.WarmedH U.vm → w.before a' U = true) (hcode : Cond.code y bytes maxL ret ∈ ws) (hinit : ∀ a' U, s.WarmedH U.vm → (Cond.initialized y.cls).before a' U = true) :
    vx_Back l R p e below s sargs y len W9 (PreOf R mc ms Pc) (PostOf Qc mc ms free) (vx_Post XC mc ms free) := by
  intro m meth c A g ig mk a X hg hsize hdg hW hn hp
  have h1 : (headSpec ws rm).pre.before a A.U = true := atoms_intro fun w hw => hws w hw _ _ X.warmed
  have h2 : (Cond.code y bytes maxL ret).before a A.U = true := hws _ hcode _ _ X.warmed
  have h3 : (Cond.initialized y.cls).before a A.U = true := hinit _ _ X.warmed
  have h4 : A.cells + (headSpec ws rm).room.cells ≤ R.cells := by rw [show (headSpec ws rm).room.cells = mc from hrc]; exact hp.1
  have h5 : A.slots + (headSpec ws rm).room.slots ≤ R.slots := by rw [show (headSpec ws rm).room.slots = ms from hrs]; exact hp.2.1
  have hPc : Pc a (A.U.calling g mk a) := hblind _ _ _ _ hp.2.2
  obtain ⟨U, Ls, c0, s0⟩ := A
  dsimp only [Pt.U, Pt.locs, Pt.cells, Pt.slots] at h1 h2 h3 h4 h5 X hn hPc ⊢
  obtain ⟨methY, cY, hmY, hcY, -, hlY, -, -, -, -⟩ := Cond.code_spec hn h2
  obtain ⟨kY, hkY, -⟩ := className_of_methodNamed hn
  have hinitY : kY.init = .initialized := Cond.initialized_spec (findClass_of_methodNamed hn) hkY h3
  have h : At U g.method c below := by rw [hg]; exact X.here
  have hlocals9 : W9 + (maxL + 11) + (headSpec ws rm).room.locals ≤ R.locals := hlocals
  have happ : (headSpec ws rm).appliesLoose y e.platform (U.calling g mk a) = true :=
    Spec.appliesLoose_calling (g := g) h hdg hn hkY hinitY
      (X.room_calling (g := g) (R' := (headSpec ws rm).room) hsize hmY hcY hframes (by rw [hlY]; omega) h4 h5) h1
  obtain ⟨mid, hmid⟩ := h.above
  have hfr : (U.setTop g).frames = (.java g :: mid) ++ below := by rw [State.frames_setTop' g h.top, hmid]; rfl
  obtain ⟨o, s₂, hsteps, -, hend, hq⟩ := Steps.callFree hM p X.admits X.cas X.clock (acts := []) hfr happ hPc trivial
  have hq' : vx_Q Qc XC mc ms free a (U.calling g mk a) o s₂ := hq
  rw [State.frames_setTop' g h.top] at hend
  obtain ⟨g₀, hg0⟩ := Option.isSome_iff_exists.mp h.top
  obtain ⟨r, hr⟩ := State.topJava?_eq_some.mp hg0
  have hr' : (({ U with heap := s₂.heap, slotsUsed := s₂.slotsUsed } : State).setVm s₂.vm).frames = .java g₀ :: r := hr
  rcases hq' with ⟨hqc, L, hfe, hL⟩ | ⟨q, rfl, E, ce, L, hx, hce, hcv, hcl, hW₂, hsm, hL⟩
  · obtain ⟨⟨v, rfl⟩, hW₂, e2, q2, q3, q4, q5, q6⟩ := id hfe
    have e3 : s₂ = ({ (U.calling g mk a).setFrames s₂.frames with heap := s₂.heap, slotsUsed := s₂.slotsUsed } : State).setVm s₂.vm := by
      have : s₂ = ({ s₂ with vm := (U.calling g mk a).vm } : State).setVm s₂.vm := rfl
      rw [e2] at this
      exact this
    obtain ⟨c₂, i₂, len₂, hc₂, hd₂, hf₂⟩ := hend
    have hW' : U.WarmedH s₂.vm := hW₂
    have hcc : c₂ = c := by
      have h1 : s₂.code? g.method = U.code? g.method := by
        rw [State.code?_eq, State.code?_eq, hW'.alike.method?]
      exact Option.some.inj (hc₂.symm.trans (h1.trans h.code))
    subst hcc
    have hlen : len₂ = len := by rw [hdg] at hd₂; cases hd₂; rfl
    subst hlen
    have hs₂ : s₂ = (({ U with heap := s₂.heap, slotsUsed := s₂.slotsUsed } : State).setVm s₂.vm).setTop { g with pc := g.pc + len₂, stack := v.toList ++ g.stack } := by
      refine e3.trans ?_
      rw [hf₂, State.calling_eq h.top, State.setFrames_setFrames, State.setTop_of_frames _ hr', hr]
      rfl
    have hsame : U.sameButNew ({ U with heap := s₂.heap, slotsUsed := s₂.slotsUsed } : State) L mc ms := by
      refine ⟨?_, q2, q3, q4, q5, q6⟩
      obtain ⟨t, ht, -⟩ := State.frames_cons hr
      show ({ U with heap := s₂.heap, slotsUsed := s₂.slotsUsed } : State) = { U.setFrames U.frames with heap := s₂.heap, slotsUsed := s₂.slotsUsed }
      rw [State.setFrames_self ht]
    subst hg
    refine Or.inl ⟨v, ⟨(({ U with heap := s₂.heap, slotsUsed := s₂.slotsUsed } : State).setVm s₂.vm), Ls ++ L, c0 + mc, s0 + ms⟩,
      ⟨X.admits, X.cas, X.clock, X.frames, X.room, X.hears, X.method, X.code, (X.here.setHeapUsed s₂.heap s₂.slotsUsed).setVm hW'.alike, X.tail, State.WarmedH.trans X.warmed hW', X.limits, X.bytes, X.same.trans (hsame.setVm s.vm)⟩,
      ⟨g, mk, s₂, L, rfl, rfl, hqc, rfl, hL, rfl, rfl⟩, ?_⟩
    show Steps p.tables e below _ ((({ U with heap := s₂.heap, slotsUsed := s₂.slotsUsed } : State).setVm s₂.vm).setTop { g with pc := g.pc + len₂, stack := v.toList ++ g.stack })
    rw [← hs₂]
    exact hsteps
  · obtain ⟨e2, q2, q3, q4, q5, q6⟩ := id hsm
    have e3 : s₂ = ({ (U.calling g mk a).setFrames s₂.frames with heap := s₂.heap, slotsUsed := s₂.slotsUsed } : State).setVm s₂.vm := by
      have : s₂ = ({ s₂ with vm := (U.calling g mk a).vm } : State).setVm s₂.vm := rfl
      rw [e2] at this
      exact this
    have hf₂ : s₂.frames = .throwing q :: .java g :: U.frames.tail := hend
    have hW' : U.WarmedH s₂.vm := hW₂
    have hs₂ : s₂ = ((({ U with heap := s₂.heap, slotsUsed := s₂.slotsUsed } : State).setVm s₂.vm).setTop g).pushFrame (.throwing q) := by
      refine e3.trans ?_
      rw [hf₂, State.calling_eq h.top, State.setFrames_setFrames, State.pushFrame, State.frames_setTop _ hr', State.setTop_of_frames _ hr', State.setFrames_setFrames, hr]
      rfl
    have hsame : U.sameButNew ({ U with heap := s₂.heap, slotsUsed := s₂.slotsUsed } : State) L mc ms := by
      refine ⟨?_, q2, q3, q4, q5, q6⟩
      obtain ⟨t, ht, -⟩ := State.frames_cons hr
      show ({ U with heap := s₂.heap, slotsUsed := s₂.slotsUsed } : State) = { U.setFrames U.frames with heap := s₂.heap, slotsUsed := s₂.slotsUsed }
      rw [State.setFrames_self ht]
    subst hg
    refine Or.inr ⟨q, ⟨(({ U with heap := s₂.heap, slotsUsed := s₂.slotsUsed } : State).setVm s₂.vm), Ls ++ L, c0 + mc, s0 + ms⟩,
      ⟨X.admits, X.cas, X.clock, X.frames, X.room, X.hears, X.method, X.code, (X.here.setHeapUsed s₂.heap s₂.slotsUsed).setVm hW'.alike, X.tail, State.WarmedH.trans X.warmed hW', X.limits, X.bytes, X.same.trans (hsame.setVm s.vm)⟩,
      ⟨g, mk, s₂, L, E, ce, rfl, rfl, hx, hce, hcv, hcl, rfl, hL, rfl, rfl⟩, ?_⟩
    show Steps p.tables e below _ (((({ U with heap := s₂.heap, slotsUsed := s₂.slotsUsed } : State).setVm s₂.vm).setTop g).pushFrame (.throwing q))
    rw [← hs₂]
    exact hsteps
end Payer
section Calls
variable {p : Program} {l : Launch} {e : Env} {R : Room} {s : State} {m : MethodId} {args : Array Value} {below : List Frame} {meth : Method} {c : Code} {T : State} {locs : List Loc} {cells slots : Nat}
theorem vx_callV (X : Stand p l e R s m args below meth c T locs cells slots) (hexec : p.tables.exec = Jvm.exec) {own C : String} {index : Nat} {y : MethodName} {bytes : ByteArray} {maxL : Nat} {ret : Option FieldType}
    (hown : s.vm.findClass own = some m.cls) (hlink : (Cond.methodLink own index y).before args s = true) (hinst : (Cond.instanceMethod y).before args s = true) (hsel : (Cond.selects C y y).before args s = true)
    (hcode : (Cond.code y bytes maxL ret).before args s = true) (hy : y.cls ≠ "java/lang/invoke/MethodHandle" ∧ y.cls ≠ "java/lang/invoke/VarHandle")
    {W9 : Nat} {Pre : Pt → Array Value → Prop} {Post : Pt → Array Value → Option Value → Pt → Prop} {PostX : Pt → Array Value → Addr → Pt → Prop} (hK : vx_Back l R p e below s args y 3 W9 Pre Post PostX)
    {b : Addr} {cellB : Cell} (hcell : T.heap[b]? = some cellB) (hobj : cellB.vm.isStatics = false) (hcls : s.vm.findClass C = some cellB.cls)
    {g : JFrame} (hg : g.method = m) (hsize : g.locals.size = c.maxLocals) {argsL rest : List Value} (hlen : ∀ sig, parseMethodDescriptor y.desc = some sig → argsL.length = sig.parameters.length)
    (hstack : g.stack = argsL.reverse ++ .ref b :: rest) (hW : 2 * g.monitorRoom + (rest.map fun v => v.category).sum ≤ W9) (hdg : decode c.code g.pc = .ok (.invokevirtual index, 3))
    (hpre : ∀ vm₁, s.WarmedH vm₁ → Pre ⟨T.setVm vm₁, locs, cells, slots⟩ (Value.ref b :: argsL).toArray) :
    (∃ (v : Option Value) (vm₁ : Vm) (B : Pt), s.WarmedH vm₁ ∧ Stand p l e R s m args below meth c B.U B.locs B.cells B.slots ∧ Post ⟨T.setVm vm₁, locs, cells, slots⟩ (Value.ref b :: argsL).toArray v B ∧
      ∀ target, Steps p.tables e below (B.U.setTop { g with pc := g.pc + 3, stack := v.toList ++ rest }) target → Steps p.tables e below (T.setTop g) target) ∨
    (∃ (q : Addr) (vm₁ : Vm) (B : Pt), s.WarmedH vm₁ ∧ Stand p l e R s m args below meth c B.U B.locs B.cells B.slots ∧ PostX ⟨T.setVm vm₁, locs, cells, slots⟩ (Value.ref b :: argsL).toArray q B ∧
      Steps p.tables e below (T.setTop g) ((B.U.setTop { g with stack := rest }).pushFrame (.throwing q))) := by
  obtain ⟨mk, methM, hnamed, hmethM, hstM, habM⟩ := Cond.instanceMethod_spec hinst
  obtain ⟨methM', cM, hmethM', -, -, -, -, -, -, hsigM⟩ := Cond.code_spec hnamed hcode
  cases hmethM.symm.trans hmethM'
  obtain ⟨c2, r2, m2, q1, q2, q3, q4, kP, hkP, hkPi⟩ := Cond.selects_spec hsel
  cases hcls.symm.trans q1
  cases (State.methodFound?_of_named hnamed hy).symm.trans q2
  cases hnamed.symm.trans q3
  have hselP : selectMethod e.platform s.vm cellB.cls mk = .method mk := by rw [Launch.admits_selectMethod X.admits]; exact q4
  obtain ⟨vm₁, X₁, hstep₁⟩ := X.invokevirtual hexec hown hlink hnamed hmethM hstM hkP hkPi hy (a := b) (cell := cellB) hcell
    (fun z h => by rw [h] at hobj; cases hobj) hselP hmethM habM hkP hkPi (g := g) hg (argsL := argsL) (rest := rest) (hlen _ hsigM) hstack hdg
  rcases hK m meth c ⟨T.setVm vm₁, locs, cells, slots⟩ { g with stack := rest } (.invokevirtual index) mk (Value.ref b :: argsL).toArray X₁ hg hsize hdg hW (X₁.named hnamed) (hpre vm₁ X₁.warmed) with ⟨v, B, X', hpost, hsteps⟩ | ⟨q, B, X', hpost, hsteps⟩
  · exact Or.inl ⟨v, vm₁, B, X₁.warmed, X', hpost, fun target h => hstep₁ _ fun acts => by rw [doInvoke_state]; exact hsteps.trans h⟩
  · exact Or.inr ⟨q, vm₁, B, X₁.warmed, X', hpost, hstep₁ _ fun acts => by rw [doInvoke_state]; exact hsteps⟩
theorem vx_callS (X : Stand p l e R s m args below meth c T locs cells slots) (hexec : p.tables.exec = Jvm.exec) {own : String} {index : Nat} {y : MethodName} {bytes : ByteArray} {maxL : Nat} {ret : Option FieldType}
    (hown : s.vm.findClass own = some m.cls) (hlink : (Cond.methodLink own index y).before args s = true) (hstat : (Cond.static y).before args s = true) (hinit : (Cond.initialized y.cls).before args s = true)
    (hcode : (Cond.code y bytes maxL ret).before args s = true) (hy : y.cls ≠ "java/lang/invoke/MethodHandle" ∧ y.cls ≠ "java/lang/invoke/VarHandle")
    {W9 : Nat} {Pre : Pt → Array Value → Prop} {Post : Pt → Array Value → Option Value → Pt → Prop} {PostX : Pt → Array Value → Addr → Pt → Prop} (hK : vx_Back l R p e below s args y 3 W9 Pre Post PostX)
    {g : JFrame} (hg : g.method = m) (hsize : g.locals.size = c.maxLocals) {argsL rest : List Value} (hlen : ∀ sig, parseMethodDescriptor y.desc = some sig → argsL.length = sig.parameters.length)
    (hstack : g.stack = argsL.reverse ++ rest) (hW : 2 * g.monitorRoom + (rest.map fun v => v.category).sum ≤ W9) (hdg : decode c.code g.pc = .ok (.invokestatic index, 3))
    (hpre : ∀ vm₁, s.WarmedH vm₁ → Pre ⟨T.setVm vm₁, locs, cells, slots⟩ argsL.toArray) :
    (∃ (v : Option Value) (vm₁ : Vm) (B : Pt), s.WarmedH vm₁ ∧ Stand p l e R s m args below meth c B.U B.locs B.cells B.slots ∧ Post ⟨T.setVm vm₁, locs, cells, slots⟩ argsL.toArray v B ∧
      ∀ target, Steps p.tables e below (B.U.setTop { g with pc := g.pc + 3, stack := v.toList ++ rest }) target → Steps p.tables e below (T.setTop g) target) ∨
    (∃ (q : Addr) (vm₁ : Vm) (B : Pt), s.WarmedH vm₁ ∧ Stand p l e R s m args below meth c B.U B.locs B.cells B.slots ∧ PostX ⟨T.setVm vm₁, locs, cells, slots⟩ argsL.toArray q B ∧
      Steps p.tables e below (T.setTop g) ((B.U.setTop { g with stack := rest }).pushFrame (.throwing q))) := by
  obtain ⟨mk, hnamed⟩ := Cond.code_named hcode
  obtain ⟨methM, cM, hmethM, -, -, -, -, -, -, hsigM⟩ := Cond.code_spec hnamed hcode
  have hstatic : methM.isStatic = true := Cond.static_spec hnamed hmethM hstat
  obtain ⟨kP, hkP, -⟩ := className_of_methodNamed hnamed
  have hinitP : kP.init = .initialized := Cond.initialized_spec (findClass_of_methodNamed hnamed) hkP hinit
  obtain ⟨vm₁, X₁, hstep₁⟩ := X.invokestatic hexec hown hlink hnamed hmethM hstatic hkP hinitP hy (g := g) hg (argsL := argsL) (rest := rest) (hlen _ hsigM) hstack hdg
  rcases hK m meth c ⟨T.setVm vm₁, locs, cells, slots⟩ { g with stack := rest } (.invokestatic index) mk argsL.toArray X₁ hg hsize hdg hW (X₁.named hnamed) (hpre vm₁ X₁.warmed) with ⟨v, B, X', hpost, hsteps⟩ | ⟨q, B, X', hpost, hsteps⟩
  · exact Or.inl ⟨v, vm₁, B, X₁.warmed, X', hpost, fun target h => hstep₁ _ fun acts => by rw [doInvoke_state]; exact hsteps.trans h⟩
  · exact Or.inr ⟨q, vm₁, B, X₁.warmed, X', hpost, hstep₁ _ fun acts => by rw [doInvoke_state]; exact hsteps⟩
end Calls
theorem vx_cls {s : State} {T : State} {vm₁ : Vm} {E : String} {k : ClassId} (hW : s.WarmedH vm₁) (h : (T.setVm vm₁).vm.findClass E = some k) : s.vm.findClass E = some k := by
  have h1 : vm₁.findClass E = some k := h
  rw [hW.alike.findClass] at h1
  exact h1
/-- the method's frame g, with q thrown over it -/
def vx_W (p : Program) (l : Launch) (e : Env) (R : Room) (s : State) (m : MethodId) (args : Array Value) (below : List Frame) (meth : Method) (c : Code) (H : Heap) (locs : List Loc) (cells slots : Nat) (Q : State → Prop) (g : JFrame) (q : Addr) : Prop :=
  ∀ T : State, T.heap = H → Stand p l e R s m args below meth c T locs cells slots → ∃ t, Steps p.tables e below ((T.setTop g).pushFrame (.throwing q)) t ∧ Q t
def vx_Run (p : Program) (l : Launch) (e : Env) (R : Room) (s : State) (m : MethodId) (args : Array Value) (below : List Frame) (meth : Method) (c : Code) (H : Heap) (locs : List Loc) (cells slots mc ms : Nat) (g : JFrame) (rest : List Value) (Qa : State → Outcome → State → Prop) (XC : String → State → State → Prop) (free : Addr → Prop) : Prop :=
  ∀ T : State, T.heap = H → Stand p l e R s m args below meth c T locs cells slots →
    (∃ (v : Option Value) (st₀ t T' : State) (L : List Loc), st₀.heap = H ∧ Stand p l e R s m args below meth c T' (locs ++ L) (cells + mc) (slots + ms) ∧ (∀ q ∈ L, free q.base) ∧ T'.heap = t.heap ∧ T'.vm = t.vm ∧ Qa st₀ (.returned v) t ∧
      Goes p e below T g T' { g with pc := g.pc + 3, stack := v.toList ++ rest }) ∨
    (∃ (q : Addr) (st₀ t T' : State) (L : List Loc) (E : String) (ce : Cell), st₀.heap = H ∧ Stand p l e R s m args below meth c T' (locs ++ L) (cells + mc) (slots + ms) ∧ (∀ z ∈ L, free z.base) ∧ T'.heap = t.heap ∧ T'.vm = t.vm ∧ XC E st₀ t ∧ t.heap[q]? = some ce ∧ ce.vm = .none ∧ s.vm.findClass E = some ce.cls ∧
      Steps p.tables e below (T.setTop g) ((T'.setTop { g with stack := rest }).pushFrame (.throwing q)))
def vx_X {S : Type} (px : S → Prop) (B : String → S → State → Prop) (A : Nat → Prop) : String → State → State → Prop := fun E st t => ∃ u : S, px u ∧ B E u t ∧ va_F A st t
section Runs
variable {p : Program} {l : Launch} {e : Env} {R : Room} {s : State} {m : MethodId} {args : Array Value} {below : List Frame} {meth : Method} {c : Code} {H : Heap} {locs : List Loc} {cells slots : Nat}
variable {y : MethodName} {bytes cc : ByteArray} {maxL nL mc ms n index : Nat} {ret : Option FieldType} {ws : List Cond} {rm : Room} {Pc : Array Value → State → Prop} {Qc : Array Value → State → Outcome → State → Prop} {XC : String → State → State → Prop} {free : Addr → Prop} {Ts : List Cond} {own C : String} {b : Addr} {As rest : List Value} {g : JFrame}
theorem vx_callBack (cb : CallB R s args own index y bytes maxL ret ws rm mc ms n) (hM : vx_Met l y ws rm Pc Qc XC mc ms free) (hbl : FrameBlind Pc) : vx_Back l R p e below s args y 3 8 (PreOf R mc ms Pc) (PostOf Qc mc ms free) (vx_Post XC mc ms free) := by
  obtain ⟨hrc, hrs, hfr, hlo, hws, hcw, -, hini, -⟩ := cb
  exact vx_back (bytes := bytes) (maxL := maxL) (ret := ret) hM hbl hrc hrs hfr hlo hws hcw (fun a' U hW => word_at hW (Or.inl (by first | rfl | simp [Cond.onTables, Cond.keeps, Cond.steady])) hini)
theorem vx_runV (S : CallFix p m c cc nL s args Ts own) (hM : vx_Met l y ws rm Pc Qc XC mc ms free) (cw : CallW R s args own C index y bytes maxL ret ws rm mc ms n) (hp : PreV s H C b Pc As)
    (hg : g.method = m) (hn : As.length = n) (hsize : g.locals.size = nL) (hstack : g.stack = As.reverse ++ .ref b :: rest) (hW : 2 * g.monitorRoom + (rest.map fun v => v.category).sum ≤ 8) (hdg : decode cc g.pc = .ok (.invokevirtual index, 3)) (hf : cells + mc ≤ R.cells ∧ slots + ms ≤ R.slots) :
    vx_Run p l e R s m args below meth c H locs cells slots mc ms g rest (Qc (Value.ref b :: As).toArray) XC free := by
  have hK : vx_Back l R p e below s args y 3 8 (PreOf R mc ms Pc) (PostOf Qc mc ms free) (vx_Post XC mc ms free) := vx_callBack cw.1 hM hp.1
  obtain ⟨⟨-, -, -, -, -, -, hcode, -, hy, hlen, hl⟩, hin, hse⟩ := cw
  obtain ⟨hx, hb, hml, ho, -⟩ := S
  obtain ⟨-, ⟨cellB, hcB, hoB, hclB⟩, hPc⟩ := hp
  intro T hT X
  rcases vx_callV X hx (C := C) (bytes := bytes) (maxL := maxL) (ret := ret) ho hl hin hse hcode hy hK (by rw [hT]; exact hcB) hoB hclB hg (hsize.trans hml.symm) (argsL := As) (rest := rest) (fun sig h => hn.trans (hlen sig h)) hstack hW (by rw [hb]; exact hdg)
    (fun vm₁ hW₁ => ⟨hf.1, hf.2, hPc (T.setVm vm₁) hT hW₁⟩) with ⟨v, vm₁, ⟨U', l2, c2, s2⟩, hW₁, X', ⟨g', mk, t, L, e1, e2, hq, h1, hL, h2, h3⟩, st⟩ | ⟨q, vm₁, ⟨U', l2, c2, s2⟩, hW₁, X', ⟨g', mk, t, L, E, ce, e1, e2, hq, hce, hcv, hcl, h1, hL, h2, h3⟩, st⟩
  · dsimp only [Pt.U, Pt.locs, Pt.cells, Pt.slots] at X' e1 e2 h1 h2 h3 st
    subst h1; subst h2; subst h3
    exact Or.inl ⟨v, (T.setVm vm₁).calling g' mk (Value.ref b :: As).toArray, t, U', L, hT, X', hL, e1, e2, hq, st⟩
  · dsimp only [Pt.U, Pt.locs, Pt.cells, Pt.slots] at X' e1 e2 h1 h2 h3 st hcl
    subst h1; subst h2; subst h3
    exact Or.inr ⟨q, (T.setVm vm₁).calling g' mk (Value.ref b :: As).toArray, t, U', L, E, ce, hT, X', hL, e1, e2, hq, hce, hcv, vx_cls hW₁ hcl, st⟩
theorem vx_runS (S : CallFix p m c cc nL s args Ts own) (hM : vx_Met l y ws rm Pc Qc XC mc ms free) (cw : CallB R s args own index y bytes maxL ret ws rm mc ms n ∧ (Cond.static y).before args s = true) (hp : PreS s H Pc As)
    (hg : g.method = m) (hn : As.length = n) (hsize : g.locals.size = nL) (hstack : g.stack = As.reverse ++ rest) (hW : 2 * g.monitorRoom + (rest.map fun v => v.category).sum ≤ 8) (hdg : decode cc g.pc = .ok (.invokestatic index, 3)) (hf : cells + mc ≤ R.cells ∧ slots + ms ≤ R.slots) :
    vx_Run p l e R s m args below meth c H locs cells slots mc ms g rest (Qc As.toArray) XC free := by
  have hK : vx_Back l R p e below s args y 3 8 (PreOf R mc ms Pc) (PostOf Qc mc ms free) (vx_Post XC mc ms free) := vx_callBack cw.1 hM hp.1
  obtain ⟨⟨-, -, -, -, -, -, hcode, hini, hy, hlen, hl⟩, hstt⟩ := cw
  obtain ⟨hx, hb, hml, ho, -⟩ := S
  intro T hT X
  rcases vx_callS X hx (bytes := bytes) (maxL := maxL) (ret := ret) ho hl hstt hini hcode hy hK hg (hsize.trans hml.symm) (argsL := As) (rest := rest) (fun sig h => hn.trans (hlen sig h)) hstack hW (by rw [hb]; exact hdg)
    (fun vm₁ hW₁ => ⟨hf.1, hf.2, hp.2 (T.setVm vm₁) hT hW₁⟩) with ⟨v, vm₁, ⟨U', l2, c2, s2⟩, hW₁, X', ⟨g', mk, t, L, e1, e2, hq, h1, hL, h2, h3⟩, st⟩ | ⟨q, vm₁, ⟨U', l2, c2, s2⟩, hW₁, X', ⟨g', mk, t, L, E, ce, e1, e2, hq, hce, hcv, hcl, h1, hL, h2, h3⟩, st⟩
  · dsimp only [Pt.U, Pt.locs, Pt.cells, Pt.slots] at X' e1 e2 h1 h2 h3 st
    subst h1; subst h2; subst h3
    exact Or.inl ⟨v, (T.setVm vm₁).calling g' mk As.toArray, t, U', L, hT, X', hL, e1, e2, hq, st⟩
  · dsimp only [Pt.U, Pt.locs, Pt.cells, Pt.slots] at X' e1 e2 h1 h2 h3 st hcl
    subst h1; subst h2; subst h3
    exact Or.inr ⟨q, (T.setVm vm₁).calling g' mk As.toArray, t, U', L, E, ce, hT, X', hL, e1, e2, hq, hce, hcv, vx_cls hW₁ hcl, st⟩
end Runs
section Rows
variable {p : Program} {l : Launch} {e : Env} {R : Room} {s : State} {m : MethodId} {args : Array Value} {below : List Frame} {meth : Method} {c : Code} {H : Heap} {locs : List Loc} {cells slots : Nat} {Q : State → Prop}
variable {mc ms : Nat} {free : Addr → Prop} {A0 A1 : Nat → Prop} {H0 : Heap} {a : Array Value} {pc : Nat} {ls : Array Slot} {st0 rest : List Value}
theorem vx_keep {st₀ t T' : State} {L : List Loc} (h0 : st₀.heap = H) (e1 : T'.heap = t.heap) (hS : va_S A0 H0 H locs) (hA : ∀ q, q < H.size → A1 q → A0 q) (hf : ∀ q, free q → A0 q) (hL : ∀ q ∈ L, free q.base) (hF : va_F A1 st₀ t) :
    H.size ≤ T'.heap.size ∧ (∀ q : Nat, q < H.size → ¬ A1 q → T'.heap[q]? = H[q]?) ∧ va_S A0 H0 T'.heap (locs ++ L) := by
  obtain ⟨hz, hk⟩ := hF
  rw [h0] at hz hk
  exact ⟨by rw [e1]; exact hz, fun q h1 h2 => by rw [e1]; exact hk q h1 h2,
    ⟨Nat.le_trans hS.1 (by rw [e1]; exact hz), fun q h1 h2 => by rw [e1, hk q (Nat.lt_of_lt_of_le h1 hS.1) (fun z => h2 (hA q (Nat.lt_of_lt_of_le h1 hS.1) z))]; exact hS.2.1 q h1 h2, fun q hq => by
      rcases List.mem_append.mp hq with h | h
      · exact hS.2.2 q h
      · exact hf _ (hL q h)⟩⟩
theorem vx_calli {S SX : Type} {post : Int32 → S → Prop} {px : SX → Prop} {B : S → State → Prop} {BX : String → SX → State → Prop} {AX : Nat → Prop} (hr : vx_Run p l e R s m args below meth c H locs cells slots mc ms (F0 m pc ls st0) rest (va_Qi post B A1 a) (vx_X px BX AX) free) (hS : va_S A0 H0 H locs) (hA : ∀ q, q < H.size → A1 q → A0 q) (hf : ∀ q, free q → A0 q) (hAX : ∀ q, q < H.size → AX q → A0 q)
    (kx : ∀ (E : String) (ce : Cell) (q9 : Addr) (u : SX) (t : State) (H1 : Heap) (locs1 : List Loc), t.heap = H1 → s.vm.Alike t.vm → px u → BX E u t → H.size ≤ H1.size → (∀ q : Nat, q < H.size → ¬ AX q → H1[q]? = H[q]?) → va_S A0 H0 H1 locs1 → H1[q9]? = some ce → ce.vm = .none → s.vm.findClass E = some ce.cls → vx_W p l e R s m args below meth c H1 locs1 (cells + mc) (slots + ms) Q (F0 m pc ls rest) q9)
    (kk : ∀ (r : Int32) (u : S) (t : State) (H1 : Heap) (locs1 : List Loc), t.heap = H1 → s.vm.Alike t.vm → post r u → B u t → H.size ≤ H1.size → (∀ q : Nat, q < H.size → ¬ A1 q → H1[q]? = H[q]?) → va_S A0 H0 H1 locs1 → W p l e R s m args below meth c H1 locs1 (cells + mc) (slots + ms) Q (F0 m (pc + 3) ls (.int r :: rest))) : W p l e R s m args below meth c H locs cells slots Q (F0 m pc ls st0) := by
  intro T hT X
  rcases hr T hT X with ⟨v, st₀, t, T', L, h0, X', hL, e1, e2, ⟨⟨r, u, hv, hp, hb⟩, hF⟩, st⟩ | ⟨q, st₀, t, T', L, E, ce, h0, X', hL, e1, e2, ⟨u, hp, hb, hF⟩, hce, hcv, hcl, st⟩
  · cases hv
    obtain ⟨k1, k2, k3⟩ := vx_keep h0 e1 hS hA hf hL hF
    obtain ⟨t2, a1, b1⟩ := kk r u t T'.heap (locs ++ L) e1.symm (by rw [← e2]; exact X'.warmed.alike) hp hb k1 k2 k3 T' rfl X'
    exact ⟨t2, st t2 a1, b1⟩
  · obtain ⟨k1, k2, k3⟩ := vx_keep h0 e1 hS hAX hf hL hF
    obtain ⟨t2, a1, b1⟩ := kx E ce q u t T'.heap (locs ++ L) e1.symm (by rw [← e2]; exact X'.warmed.alike) hp hb k1 k2 k3 (by rw [e1]; exact hce) hcv hcl T' rfl X'
    exact ⟨t2, st.trans a1, b1⟩
theorem vx_calll {S SX : Type} {post : Int64 → S → Prop} {px : SX → Prop} {B : S → State → Prop} {BX : String → SX → State → Prop} {AX : Nat → Prop} (hr : vx_Run p l e R s m args below meth c H locs cells slots mc ms (F0 m pc ls st0) rest (va_Ql post B A1 a) (vx_X px BX AX) free) (hS : va_S A0 H0 H locs) (hA : ∀ q, q < H.size → A1 q → A0 q) (hf : ∀ q, free q → A0 q) (hAX : ∀ q, q < H.size → AX q → A0 q)
    (kx : ∀ (E : String) (ce : Cell) (q9 : Addr) (u : SX) (t : State) (H1 : Heap) (locs1 : List Loc), t.heap = H1 → s.vm.Alike t.vm → px u → BX E u t → H.size ≤ H1.size → (∀ q : Nat, q < H.size → ¬ AX q → H1[q]? = H[q]?) → va_S A0 H0 H1 locs1 → H1[q9]? = some ce → ce.vm = .none → s.vm.findClass E = some ce.cls → vx_W p l e R s m args below meth c H1 locs1 (cells + mc) (slots + ms) Q (F0 m pc ls rest) q9)
    (kk : ∀ (r : Int64) (u : S) (t : State) (H1 : Heap) (locs1 : List Loc), t.heap = H1 → s.vm.Alike t.vm → post r u → B u t → H.size ≤ H1.size → (∀ q : Nat, q < H.size → ¬ A1 q → H1[q]? = H[q]?) → va_S A0 H0 H1 locs1 → W p l e R s m args below meth c H1 locs1 (cells + mc) (slots + ms) Q (F0 m (pc + 3) ls (.long r :: rest))) : W p l e R s m args below meth c H locs cells slots Q (F0 m pc ls st0) := by
  intro T hT X
  rcases hr T hT X with ⟨v, st₀, t, T', L, h0, X', hL, e1, e2, ⟨⟨r, u, hv, hp, hb⟩, hF⟩, st⟩ | ⟨q, st₀, t, T', L, E, ce, h0, X', hL, e1, e2, ⟨u, hp, hb, hF⟩, hce, hcv, hcl, st⟩
  · cases hv
    obtain ⟨k1, k2, k3⟩ := vx_keep h0 e1 hS hA hf hL hF
    obtain ⟨t2, a1, b1⟩ := kk r u t T'.heap (locs ++ L) e1.symm (by rw [← e2]; exact X'.warmed.alike) hp hb k1 k2 k3 T' rfl X'
    exact ⟨t2, st t2 a1, b1⟩
  · obtain ⟨k1, k2, k3⟩ := vx_keep h0 e1 hS hAX hf hL hF
    obtain ⟨t2, a1, b1⟩ := kx E ce q u t T'.heap (locs ++ L) e1.symm (by rw [← e2]; exact X'.warmed.alike) hp hb k1 k2 k3 (by rw [e1]; exact hce) hcv hcl T' rfl X'
    exact ⟨t2, st.trans a1, b1⟩
theorem vx_callf {S SX : Type} {post : UInt32 → S → Prop} {px : SX → Prop} {B : S → State → Prop} {BX : String → SX → State → Prop} {AX : Nat → Prop} (hr : vx_Run p l e R s m args below meth c H locs cells slots mc ms (F0 m pc ls st0) rest (va_Qf post B A1 a) (vx_X px BX AX) free) (hS : va_S A0 H0 H locs) (hA : ∀ q, q < H.size → A1 q → A0 q) (hf : ∀ q, free q → A0 q) (hAX : ∀ q, q < H.size → AX q → A0 q)
    (kx : ∀ (E : String) (ce : Cell) (q9 : Addr) (u : SX) (t : State) (H1 : Heap) (locs1 : List Loc), t.heap = H1 → s.vm.Alike t.vm → px u → BX E u t → H.size ≤ H1.size → (∀ q : Nat, q < H.size → ¬ AX q → H1[q]? = H[q]?) → va_S A0 H0 H1 locs1 → H1[q9]? = some ce → ce.vm = .none → s.vm.findClass E = some ce.cls → vx_W p l e R s m args below meth c H1 locs1 (cells + mc) (slots + ms) Q (F0 m pc ls rest) q9)
    (kk : ∀ (r : UInt32) (u : S) (t : State) (H1 : Heap) (locs1 : List Loc), t.heap = H1 → s.vm.Alike t.vm → post r u → B u t → H.size ≤ H1.size → (∀ q : Nat, q < H.size → ¬ A1 q → H1[q]? = H[q]?) → va_S A0 H0 H1 locs1 → W p l e R s m args below meth c H1 locs1 (cells + mc) (slots + ms) Q (F0 m (pc + 3) ls (.float r :: rest))) : W p l e R s m args below meth c H locs cells slots Q (F0 m pc ls st0) := by
  intro T hT X
  rcases hr T hT X with ⟨v, st₀, t, T', L, h0, X', hL, e1, e2, ⟨⟨r, u, hv, hp, hb⟩, hF⟩, st⟩ | ⟨q, st₀, t, T', L, E, ce, h0, X', hL, e1, e2, ⟨u, hp, hb, hF⟩, hce, hcv, hcl, st⟩
  · cases hv
    obtain ⟨k1, k2, k3⟩ := vx_keep h0 e1 hS hA hf hL hF
    obtain ⟨t2, a1, b1⟩ := kk r u t T'.heap (locs ++ L) e1.symm (by rw [← e2]; exact X'.warmed.alike) hp hb k1 k2 k3 T' rfl X'
    exact ⟨t2, st t2 a1, b1⟩
  · obtain ⟨k1, k2, k3⟩ := vx_keep h0 e1 hS hAX hf hL hF
    obtain ⟨t2, a1, b1⟩ := kx E ce q u t T'.heap (locs ++ L) e1.symm (by rw [← e2]; exact X'.warmed.alike) hp hb k1 k2 k3 (by rw [e1]; exact hce) hcv hcl T' rfl X'
    exact ⟨t2, st.trans a1, b1⟩
theorem vx_calld {S SX : Type} {post : UInt64 → S → Prop} {px : SX → Prop} {B : S → State → Prop} {BX : String → SX → State → Prop} {AX : Nat → Prop} (hr : vx_Run p l e R s m args below meth c H locs cells slots mc ms (F0 m pc ls st0) rest (va_Qd post B A1 a) (vx_X px BX AX) free) (hS : va_S A0 H0 H locs) (hA : ∀ q, q < H.size → A1 q → A0 q) (hf : ∀ q, free q → A0 q) (hAX : ∀ q, q < H.size → AX q → A0 q)
    (kx : ∀ (E : String) (ce : Cell) (q9 : Addr) (u : SX) (t : State) (H1 : Heap) (locs1 : List Loc), t.heap = H1 → s.vm.Alike t.vm → px u → BX E u t → H.size ≤ H1.size → (∀ q : Nat, q < H.size → ¬ AX q → H1[q]? = H[q]?) → va_S A0 H0 H1 locs1 → H1[q9]? = some ce → ce.vm = .none → s.vm.findClass E = some ce.cls → vx_W p l e R s m args below meth c H1 locs1 (cells + mc) (slots + ms) Q (F0 m pc ls rest) q9)
    (kk : ∀ (r : UInt64) (u : S) (t : State) (H1 : Heap) (locs1 : List Loc), t.heap = H1 → s.vm.Alike t.vm → post r u → B u t → H.size ≤ H1.size → (∀ q : Nat, q < H.size → ¬ A1 q → H1[q]? = H[q]?) → va_S A0 H0 H1 locs1 → W p l e R s m args below meth c H1 locs1 (cells + mc) (slots + ms) Q (F0 m (pc + 3) ls (.double r :: rest))) : W p l e R s m args below meth c H locs cells slots Q (F0 m pc ls st0) := by
  intro T hT X
  rcases hr T hT X with ⟨v, st₀, t, T', L, h0, X', hL, e1, e2, ⟨⟨r, u, hv, hp, hb⟩, hF⟩, st⟩ | ⟨q, st₀, t, T', L, E, ce, h0, X', hL, e1, e2, ⟨u, hp, hb, hF⟩, hce, hcv, hcl, st⟩
  · cases hv
    obtain ⟨k1, k2, k3⟩ := vx_keep h0 e1 hS hA hf hL hF
    obtain ⟨t2, a1, b1⟩ := kk r u t T'.heap (locs ++ L) e1.symm (by rw [← e2]; exact X'.warmed.alike) hp hb k1 k2 k3 T' rfl X'
    exact ⟨t2, st t2 a1, b1⟩
  · obtain ⟨k1, k2, k3⟩ := vx_keep h0 e1 hS hAX hf hL hF
    obtain ⟨t2, a1, b1⟩ := kx E ce q u t T'.heap (locs ++ L) e1.symm (by rw [← e2]; exact X'.warmed.alike) hp hb k1 k2 k3 (by rw [e1]; exact hce) hcv hcl T' rfl X'
    exact ⟨t2, st.trans a1, b1⟩
theorem vx_callv {S SX : Type} {post : S → Prop} {px : SX → Prop} {B : S → State → Prop} {BX : String → SX → State → Prop} {AX : Nat → Prop} (hr : vx_Run p l e R s m args below meth c H locs cells slots mc ms (F0 m pc ls st0) rest (va_Qv post B A1 a) (vx_X px BX AX) free) (hS : va_S A0 H0 H locs) (hA : ∀ q, q < H.size → A1 q → A0 q) (hf : ∀ q, free q → A0 q) (hAX : ∀ q, q < H.size → AX q → A0 q)
    (kx : ∀ (E : String) (ce : Cell) (q9 : Addr) (u : SX) (t : State) (H1 : Heap) (locs1 : List Loc), t.heap = H1 → s.vm.Alike t.vm → px u → BX E u t → H.size ≤ H1.size → (∀ q : Nat, q < H.size → ¬ AX q → H1[q]? = H[q]?) → va_S A0 H0 H1 locs1 → H1[q9]? = some ce → ce.vm = .none → s.vm.findClass E = some ce.cls → vx_W p l e R s m args below meth c H1 locs1 (cells + mc) (slots + ms) Q (F0 m pc ls rest) q9)
    (kk : ∀ (u : S) (t : State) (H1 : Heap) (locs1 : List Loc), t.heap = H1 → s.vm.Alike t.vm → post u → B u t → H.size ≤ H1.size → (∀ q : Nat, q < H.size → ¬ A1 q → H1[q]? = H[q]?) → va_S A0 H0 H1 locs1 → W p l e R s m args below meth c H1 locs1 (cells + mc) (slots + ms) Q (F0 m (pc + 3) ls (rest))) : W p l e R s m args below meth c H locs cells slots Q (F0 m pc ls st0) := by
  intro T hT X
  rcases hr T hT X with ⟨v, st₀, t, T', L, h0, X', hL, e1, e2, ⟨⟨u, hv, hp, hb⟩, hF⟩, st⟩ | ⟨q, st₀, t, T', L, E, ce, h0, X', hL, e1, e2, ⟨u, hp, hb, hF⟩, hce, hcv, hcl, st⟩
  · cases hv
    obtain ⟨k1, k2, k3⟩ := vx_keep h0 e1 hS hA hf hL hF
    obtain ⟨t2, a1, b1⟩ := kk u t T'.heap (locs ++ L) e1.symm (by rw [← e2]; exact X'.warmed.alike) hp hb k1 k2 k3 T' rfl X'
    exact ⟨t2, st t2 a1, b1⟩
  · obtain ⟨k1, k2, k3⟩ := vx_keep h0 e1 hS hAX hf hL hF
    obtain ⟨t2, a1, b1⟩ := kx E ce q u t T'.heap (locs ++ L) e1.symm (by rw [← e2]; exact X'.warmed.alike) hp hb k1 k2 k3 (by rw [e1]; exact hce) hcv hcl T' rfl X'
    exact ⟨t2, st.trans a1, b1⟩
/-- caught by the row x of this method's table; the rows ahead don't take it -/
theorem vx_catch {own name : String} {E : String} {ce : Cell} {q : Addr} (hown : s.vm.findClass own = some m.cls) (pre : List ExceptionTableEntry) (x : ExceptionTableEntry) (suf : List ExceptionTableEntry) (hsplit : c.exceptionTable.toList = pre ++ x :: suf)
    (hpass : ∀ z ∈ pre, covers z pc = false ∨ (z.catchType ≠ 0 ∧ ∃ nm : String, (Cond.classLink own z.catchType nm).before args s = true ∧ va_Nc E nm s)) (hx : covers x pc = true) (h0 : x.catchType ≠ 0)
    (hlink : (Cond.classLink own x.catchType name).before args s = true) (hcast : (Cond.castable E name).before args s = true) (hcell : H[q]? = some ce) (hv : ce.vm = .none) (hcl : s.vm.findClass E = some ce.cls)
    (kk : W p l e R s m args below meth c H locs cells slots Q (F0 m x.handlerPc ls [.ref q])) : vx_W p l e R s m args below meth c H locs cells slots Q (F0 m pc ls rest) q := by
  intro T hT X
  have hpl : e.platform.magicAccessors = ({} : Platform).magicAccessors := by rw [X.admits.platform]
  obtain ⟨c3, c4, hc3, hc4, hasg⟩ := Cond.castable_spec hcast
  cases Option.some.inj (hc3.symm.trans hcl)
  obtain ⟨c5, hc5, hcl5⟩ := Cond.classLink_spec hown hlink e.platform hpl
  cases Option.some.inj (hc4.symm.trans hc5)
  obtain ⟨vm', X', st⟩ := X.thenCaughtThrough q (g := F0 m pc ls rest) rfl (Steps.refl _) (by rw [hT]; exact hcell) (by rw [hv]; rfl) (by obtain ⟨k9, h9, -⟩ := Vm.findClass_spec hcl; exact ⟨k9, h9⟩) pre x suf hsplit
    (fun z hz => by
      rcases hpass z hz with h | ⟨hz0, nm, hl1, hn1⟩
      · exact Or.inl h
      · obtain ⟨c6, hc6, hcl6⟩ := Cond.classLink_spec hown hl1 e.platform hpl
        obtain ⟨a8, b8, h1, h2, h3⟩ := hn1
        cases Option.some.inj (h1.symm.trans hcl)
        cases Option.some.inj (h2.symm.trans hc6)
        exact Or.inr ⟨hz0, _, hcl6, h3⟩) hx (Or.inr ⟨h0, c4, hcl5, hasg⟩)
  obtain ⟨t, a1, b1⟩ := kk (T.setVm vm') hT X'
  exact ⟨t, st.trans a1, b1⟩
end Rows
section Ends
variable {p : Program} {l : Launch} {e : Env} {R : Room} {s : State} {m : MethodId} {args : Array Value} {below : List Frame} {meth : Method} {c : Code} {H : Heap} {locs : List Loc} {cells slots : Nat} {Q : State → Prop}
variable {mc ms : Nat} {free : Addr → Prop} {A0 A1 : Nat → Prop} {H0 : Heap} {a : Array Value} {ls : Array Slot} {st0 rest : List Value}
variable {Qc : Array Value → State → Outcome → State → Prop} {XC : String → State → State → Prop}
/-- what a body that may throw owes at its end -/
def vx_MQ (below : List Frame) (Qc : Array Value → State → Outcome → State → Prop) (XC : String → State → State → Prop) (a : Array Value) (s : State) (mc ms : Nat) (free : Addr → Prop) : State → Prop := fun t =>
  ∃ o, t.status = .running ∧ Ended t below o ∧ vx_Q Qc XC mc ms free a s o t
theorem vx_ret {g : JFrame} {mc ms : Nat} (k : W p l e R s m args below meth c H locs cells slots (MQ below Qc args s mc ms free) g) : W p l e R s m args below meth c H locs cells slots (vx_MQ below Qc XC args s mc ms free) g := by
  intro T hT X
  obtain ⟨t, a1, o, b1, b2, b3, b4⟩ := k T hT X
  exact ⟨t, a1, o, b1, b2, Or.inl ⟨b3, b4⟩⟩
/-- not caught here: it goes on to the caller -/
theorem vx_widen {g : JFrame} {q : Addr} {k n : Nat} (h1 : cells ≤ k) (h2 : slots ≤ n) (kk : vx_W p l e R s m args below meth c H locs k n Q g q) : vx_W p l e R s m args below meth c H locs cells slots Q g q := fun T hT X => kk T hT (stand_widen X h1 h2)
theorem vx_out {pc : Nat} {E : String} {ce : Cell} {q : Addr} {mc ms : Nat} (hout : ∀ x ∈ c.exceptionTable.toList, covers x pc = false) (hlocks : meth.locks = false) (hcell : H[q]? = some ce) (hv : ce.vm = .none) (hcl : s.vm.findClass E = some ce.cls)
    (hx : ∀ t : State, t.heap = H → s.vm.Alike t.vm → XC E s t) (hf : ∀ z ∈ locs, free z.base) (hc : cells ≤ mc) (hs : slots ≤ ms) :
    vx_W p l e R s m args below meth c H locs cells slots (vx_MQ below Qc XC args s mc ms free) (F0 m pc ls rest) q := by
  intro T hT X
  obtain ⟨st1, hrun, hend, hW, hsm⟩ := X.leaveThrown q (g := F0 m pc ls rest) rfl rfl rfl hout hlocks
  have hcell9 : (T.setFrames (.throwing q :: below)).heap[q]? = some ce := by
    show T.heap[q]? = some ce
    rw [hT]; exact hcell
  exact ⟨_, st1, .threw q, hrun, hend, Or.inr ⟨q, rfl, E, ce, locs, hx _ hT hW.alike, hcell9, hv, hcl, hW, hsm.mono hc hs, hf⟩⟩
theorem vx_frame {U : State} {k n : Nat} (h : s.sameButNew ({ U with vm := s.vm } : State) locs k n) : s.heap.size ≤ U.heap.size ∧ ∀ q : Nat, q < s.heap.size → (∀ z ∈ locs, z.base ≠ q) → U.heap[q]? = s.heap[q]? := by
  obtain ⟨-, h2, -, -, -, h6⟩ := h
  refine ⟨h2, fun q hq hz => ?_⟩
  obtain ⟨c9, e1, e2, e3, e4⟩ := h6 q _ (Array.getElem?_eq_getElem hq)
  have hs : c9.slots = (s.heap[q]).slots := Array.ext_getElem? fun i => e4 i fun hm => hz _ hm rfl
  have h9 : c9 = s.heap[q] := by
    rw [hs] at e2
    exact e2
  have e5 : U.heap[q]? = some c9 := e1
  rw [e5, h9, Array.getElem?_eq_getElem hq]
/-- the words of a throw but the four that speak of the heap -/
def vx_no (w : Cond) : Bool := decide (w ≠ .isRef (.static Bundle.tN "UNASSIGNED_STACK" Bundle.steD)) && decide (w ≠ .isRef (.static Bundle.tN "SUPPRESSED_SENTINEL" Bundle.listD)) && decide (w ≠ .laysStatic Bundle.tN "UNASSIGNED_STACK" Bundle.steD) && decide (w ≠ .laysStatic Bundle.tN "SUPPRESSED_SENTINEL" Bundle.listD)
def vx_at0 (own : String) (ic : Nat) (X : String) (names : List String) : List Cond := (Bundle.ownAtoms0 own ic X names).filter vx_no
def vx_atS (own : String) (ic : Nat) (X : String) (names : List String) : List Cond := (Bundle.ownAtoms own ic X names).filter vx_no
/-- a word that the tables alone decide, or a good one -/
def vx_ot (w : Cond) : Bool := w.onTables || goodWord w
theorem vx_ot_at {args a' : Array Value} {s U : State} {w : Cond} (hW : s.WarmedH U.vm) (hvm : s.vm = U.vm) (hg : vx_ot w = true) (h : w.before args s = true) : w.before a' U = true := by
  simp only [vx_ot, Bool.or_eq_true] at hg
  rcases hg with hg | hg
  · exact va_tabs hg hvm h
  · exact word_at hW (good_of_word hg) h
/-- a list's words: the good ones out of the method's own list, the others by premises of their own -/
theorem vx_hat {args : Array Value} {s : State} {L B : List Cond} (h1 : ∀ w ∈ L.filter goodWord, w.before args s = true) (h2 : ∀ w ∈ L.filter (fun w => !goodWord w), w ∈ B) (h3 : ∀ w ∈ B, w.before args s = true) : ∀ w ∈ L, w.before args s = true := by
  intro w hw
  by_cases g : goodWord w = true
  · exact h1 w (List.mem_filter.mpr ⟨hw, g⟩)
  · refine h3 w (h2 w (List.mem_filter.mpr ⟨hw, ?_⟩))
    show (!goodWord w) = true
    cases hgw : goodWord w
    · rfl
    · exact absurd hgw g
theorem vx_c {args : Array Value} {s : State} {w : Cond} {B : List Cond} (h : w.before args s = true) (t : ∀ w ∈ B, w.before args s = true) : ∀ w' ∈ w :: B, w'.before args s = true := fun w' h' => (List.mem_cons.mp h').elim (fun e => by rw [e]; exact h) (t w')
theorem vx_n {args : Array Value} {s : State} : ∀ w ∈ ([] : List Cond), w.before args s = true := fun _ h => nomatch h
theorem vx_own {args : Array Value} {s : State} {L : List Cond} (h1 : ∀ w ∈ L.filter vx_no, w.before args s = true)
    (hU : (Cond.isRef (.static Bundle.tN "UNASSIGNED_STACK" Bundle.steD)).before args s = true) (hN : (Cond.isRef (.static Bundle.tN "SUPPRESSED_SENTINEL" Bundle.listD)).before args s = true)
    (lU : (Cond.laysStatic Bundle.tN "UNASSIGNED_STACK" Bundle.steD).before args s = true) (lN : (Cond.laysStatic Bundle.tN "SUPPRESSED_SENTINEL" Bundle.listD).before args s = true) : ∀ w ∈ L, w.before args s = true := by
  intro w hw
  by_cases e1 : w = .isRef (.static Bundle.tN "UNASSIGNED_STACK" Bundle.steD)
  · rw [e1]; exact hU
  · by_cases e2 : w = .isRef (.static Bundle.tN "SUPPRESSED_SENTINEL" Bundle.listD)
    · rw [e2]; exact hN
    · by_cases e3 : w = .laysStatic Bundle.tN "UNASSIGNED_STACK" Bundle.steD
      · rw [e3]; exact lU
      · by_cases e4 : w = .laysStatic Bundle.tN "SUPPRESSED_SENTINEL" Bundle.listD
        · rw [e4]; exact lN
        · exact h1 w (List.mem_filter.mpr ⟨hw, by unfold vx_no; rw [decide_eq_true e1, decide_eq_true e2, decide_eq_true e3, decide_eq_true e4]; rfl⟩)
/-- where a static field lies, its class's statics cell in H -/
def vx_L (C n d : String) (A : Nat → Prop) (U : State) (H : Heap) : Prop := ∃ (c : ClassId) (k : Class) (i : Nat) (f : Field) (a : Nat) (cell : Cell), U.vm.findClass C = some c ∧ U.fieldFound? C n d = some (c, k, i, f) ∧ f.isStatic = true ∧ k.statics = some a ∧ H[a]? = some cell ∧ cell.vm.isStatics = true ∧ cell.cls = c ∧ f.slot < cell.slots.size ∧ k.staticTypes[f.slot]? = some f.type ∧ ¬ A a
theorem vx_L.moved {C n d : String} {A : Nat → Prop} {u U : State} {H : Heap} (hvm : u.vm.Alike U.vm) (h : vx_L C n d A u H) : vx_L C n d A U H := by
  obtain ⟨c, k, i, f, a, cell, h1, h2, h3, h4, h5, h6, h7, h8, h9, h10⟩ := h
  obtain ⟨k', hi', he⟩ := State.fieldFound?_setVm hvm h2
  exact ⟨c, k', i, f, a, cell, by rw [hvm.findClass]; exact h1, hi', h3, by rw [he]; exact h4, h5, h6, h7, h8, by rw [he]; exact h9, h10⟩
theorem vx_L.kept {C n d : String} {A : Nat → Prop} {U : State} {H H1 : Heap} (h : vx_L C n d A U H) (hq : ∀ a : Nat, a < H.size → ¬ A a → H1[a]? = H[a]?) : vx_L C n d A U H1 := by
  obtain ⟨c, k, i, f, a, cell, h1, h2, h3, h4, h5, h6, h7, h8, h9, h10⟩ := h
  exact ⟨c, k, i, f, a, cell, h1, h2, h3, h4, by rw [hq a (Array.getElem?_eq_some_iff.mp h5).1 h10]; exact h5, h6, h7, h8, h9, h10⟩
theorem vx_L.narrow {C n d : String} {A B : Nat → Prop} {U : State} {H : Heap} (h : vx_L C n d A U H) (hAB : ∀ q, B q → A q) : vx_L C n d B U H := by
  obtain ⟨c, k, i, f, a, cell, h1, h2, h3, h4, h5, h6, h7, h8, h9, h10⟩ := h
  exact ⟨c, k, i, f, a, cell, h1, h2, h3, h4, h5, h6, h7, h8, h9, fun z => h10 (hAB _ z)⟩
theorem vx_L.word {C n d : String} {A : Nat → Prop} {s : State} {args : Array Value} (h : vx_L C n d A s s.heap) : (Cond.laysStatic C n d).before args s = true := by
  obtain ⟨c, k, i, f, a, cell, h1, h2, h3, h4, h5, h6, h7, h8, h9, -⟩ := h
  show (Cond.laysStatic C n d).holds args s none s [] = true
  exact Cond.laysStatic_of h1 h2 h3 h4 h5 h6 h7 h8 h9
/-- .. and what it holds: null or some reference -/
def vx_Zq (C n d : String) (A : Nat → Prop) (U : State) (H : Heap) : Prop := va_Zq C n d A U H ∧ vx_L C n d A U H
theorem vx_Zq.moved {C n d : String} {A : Nat → Prop} {u U : State} {H : Heap} (hvm : u.vm.Alike U.vm) (h : vx_Zq C n d A u H) : vx_Zq C n d A U H := ⟨va_Zq.moved hvm h.1, vx_L.moved hvm h.2⟩
theorem vx_Zq.kept {C n d : String} {A : Nat → Prop} {U : State} {H H1 : Heap} (h : vx_Zq C n d A U H) (hq : ∀ a : Nat, a < H.size → ¬ A a → H1[a]? = H[a]?) : vx_Zq C n d A U H1 := ⟨va_Zq.kept h.1 hq, vx_L.kept h.2 hq⟩
theorem vx_Zq.narrow {C n d : String} {A B : Nat → Prop} {U : State} {H : Heap} (h : vx_Zq C n d A U H) (hAB : ∀ q, B q → A q) : vx_Zq C n d B U H := ⟨va_Zq.narrow h.1 hAB, vx_L.narrow h.2 hAB⟩
theorem vx_Zqof {args : Array Value} {s : State} {C n d : String} {A : Nat → Prop} (hl : (Cond.laysStatic C n d).before args s = true) (hini : (Cond.initialized C).before args s = true) (h : (Cond.isRef (.static C n d)).before args s = true) (hA : ∀ a : Nat, a < s.heap.size → ¬ A a) : vx_Zq C n d A s s.heap := by
  refine ⟨va_Zqof hl hini h hA, ?_⟩
  obtain ⟨c, k, i, f, a, cell, h1, h2, h3, h4, h5, h6, h7, h8, h9⟩ := Cond.laysStatic_spec hl
  exact ⟨c, k, i, f, a, cell, h1, h2, h3, h4, h5, h6, h7, h8, h9, hA a (Array.getElem?_eq_some_iff.mp h5).1⟩
theorem vx_isRef {C n d : String} {v : Value} {A : Nat → Prop} {s : State} {args : Array Value} (h : va_Z C n d v A s s.heap) (hv : v.isRef = true) : (Cond.isRef (.static C n d)).before args s = true := by
  obtain ⟨cf, kf, fi, f, a, cell, h1, h2, h3, h4, h5, h6, h7, -⟩ := h
  have he : (Term.static C n d).eval args s none [] s = some v := by
    simp [Term.eval, State.fieldNamed?, h1, h2, h4, h5, h6, h7]
  simp only [Cond.before, Cond.holds, Cond.value, he]
  cases v <;> simp_all [Value.isRef]
theorem vx_isRefq {C n d : String} {A : Nat → Prop} {s : State} {args : Array Value} (h : va_Zq C n d A s s.heap) : (Cond.isRef (.static C n d)).before args s = true := by
  rcases h with h | ⟨t, h⟩
  · exact vx_isRef h rfl
  · exact vx_isRef h rfl
/-- the same frame, seen from here: as if the method were called anew in this heap -/
theorem vx_rebase {T : State} (X : Stand p l e R s m args below meth c T locs cells slots) {R' : Room} (hf : R'.frames ≤ R.frames) (hl : R'.locals ≤ R.locals) (hc : cells + R'.cells ≤ R.cells) (hs : slots + R'.slots ≤ R.slots) :
    Stand p l e R' ((T.setVm s.vm).setFrames (.invoking m args :: below)) m args below meth c T [] 0 0 := by
  have htop : (T.setVm s.vm).topJava?.isSome := X.here.top
  have hF : ((T.setVm s.vm).setFrames (.invoking m args :: below)).frames = .invoking m args :: below := State.frames_setFrames _ (State.cur_lt_of_top htop)
  obtain ⟨g₀, hg0⟩ := Option.isSome_iff_exists.mp htop
  obtain ⟨r, hr⟩ := State.topJava?_eq_some.mp hg0
  have hl9 : e.platform.stackLimits (T.setVm s.vm).me = e.platform.stackLimits s.me := X.limits
  have hb9 : (T.setVm s.vm).me.stackBytes = s.me.stackBytes := X.bytes
  refine ⟨X.admits, X.cas, X.clock, hF, ?_, X.hears, X.method, X.code, X.here, X.tail, X.warmed, ?_, ?_, ?_⟩
  · have h := X.room
    have hU : ((T.setVm s.vm).setFrames (.invoking m args :: below)).localsInUse = s.localsInUse := by
      rw [State.localsInUse_invoking hF (meth := meth) (c := c) X.method X.code, State.localsInUse_invoking X.frames X.method X.code]
    simp only [State.hasRoom, Bool.and_eq_true, decide_eq_true_eq] at h ⊢
    obtain ⟨⟨⟨⟨h1, h2, h3, h4, h5, h6⟩, h7⟩, h8⟩, h9⟩ := h
    rw [X.frames, List.length_cons] at h2 h3
    have q1 := X.heapSize
    have q2 := X.used
    simp only [hF, hU, List.length_cons, State.stackLimits_setFrames, State.stackBytes_setFrames, hl9, hb9]
    refine ⟨⟨⟨⟨by omega, by omega, by omega, by omega, by omega, h6⟩, ?_⟩, ?_⟩, X.book⟩
    · show T.heap.size + R'.cells ≤ e.platform.maxCells
      omega
    · show T.slotsUsed + R'.slots ≤ e.platform.maxSlots
      omega
  · rw [State.stackLimits_setFrames]; rfl
  · rw [State.stackBytes_setFrames]; rfl
  · refine ⟨?_, Nat.le_refl _, Nat.le_refl _, ?_, ?_, fun a c9 h9 => ⟨c9, h9, rfl, rfl, fun _ _ => rfl⟩⟩
    · obtain ⟨t, ht, -⟩ := State.frames_cons hr
      show T.setVm s.vm = { ((T.setVm s.vm).setFrames (.invoking m args :: below)).setFrames (T.setVm s.vm).frames with heap := T.heap, slotsUsed := T.slotsUsed }
      rw [State.setFrames_setFrames, State.setFrames_self ht]
      rfl
    · show T.slotsUsed = T.slotsUsed + ((T.heap.toList.drop T.heap.size).map (·.slots.size)).sum
      rw [List.drop_eq_nil_of_le (Nat.le_of_eq Array.length_toList)]
      rfl
    · show ((T.heap.toList.drop T.heap.size).map (·.slots.size)).sum ≤ 0
      rw [List.drop_eq_nil_of_le (Nat.le_of_eq Array.length_toList)]
      exact Nat.le_refl _
/-- 'throw new E()': new; dup; invokespecial; athrow -/
theorem vx_throw0 {cc : ByteArray} {pc : Nat} (hexec : p.tables.exec = Jvm.exec) (hb : c.code = cc) (hl : l.stackTraces = false) {own cls : String} {names : List String} {ik ic mc ms : Nat} {A : Nat → Prop}
    (hown : s.vm.findClass own = some m.cls) (hcls : Bundle.fit cls = true) (hnames : ∀ n ∈ names, Bundle.fit n = true)
    (hk : (Cond.classLink own ik cls).before args s = true) (hini : (Cond.initialized cls).before args s = true) (hat : ∀ w ∈ vx_at0 own ic cls names, w.before args s = true)
    (hgood : ∀ w ∈ Cond.classLink own ik cls :: Cond.initialized cls :: vx_at0 own ic cls names, vx_ot w = true)
    (hU : vx_Zq Bundle.tN "UNASSIGNED_STACK" Bundle.steD A s s.heap) (hN : vx_Zq Bundle.tN "SUPPRESSED_SENTINEL" Bundle.listD A s s.heap) (hS : va_S A s.heap H locs) (hsize : ls.size = c.maxLocals)
    (d0 : decode cc pc = .ok (.new ik, 3)) (d3 : decode cc (pc + 3) = .ok (.dup, 1)) (d4 : decode cc (pc + 4) = .ok (.invokespecial ic, 3)) (d7 : decode cc (pc + 7) = .ok (.athrow, 1))
    (hout : ∀ x ∈ c.exceptionTable.toList, covers x (pc + 7) = false)
    (hRframes : names.length + 3 < R.frames) (hRlocals : (rest.map fun v => v.category).sum + (13 * (names.length + 1) + 42) ≤ R.locals) (hRcells : cells + 1 ≤ R.cells) (hRslots : slots + 6 ≤ R.slots) (hlocks : meth.locks = false)
    (hx : ∀ t : State, s.vm.Alike t.vm → H.size ≤ t.heap.size → (∀ q : Nat, q < H.size → t.heap[q]? = H[q]?) → XC cls s t)
    (hf : ∀ z ∈ locs, free z.base) (hc : cells + 1 ≤ mc) (hs : slots + 6 ≤ ms) :
    W p l e R s m args below meth c H locs cells slots (vx_MQ below Qc XC args s mc ms free) (F0 m pc ls rest) := by
  intro T hT X
  have htr : e.platform.stackTraces = false := (show e.platform.stackTraces = l.stackTraces by rw [X.admits.platform]).trans hl
  have Y := vx_rebase X (R' := { frames := R.frames, locals := R.locals, cells := 1, slots := 6 }) (Nat.le_refl _) (Nat.le_refl _) hRcells hRslots
  obtain ⟨s', hA⟩ : ∃ z, z = (T.setVm s.vm).setFrames (.invoking m args :: below) := ⟨_, rfl⟩
  rw [← hA] at Y
  have hvm : s'.vm = s.vm := by rw [hA]; rfl
  have hhp : s'.heap = H := by rw [hA]; exact hT
  have hW0 : s.WarmedH s'.vm := by rw [hvm]; exact State.WarmedH.refl s
  have hat' : ∀ w ∈ vx_at0 own ic cls names, w.before args s' = true := fun w hw => vx_ot_at hW0 hvm.symm (hgood w (List.mem_cons_of_mem _ (List.mem_cons_of_mem _ hw))) (hat w hw)
  have hk' : (Cond.classLink own ik cls).before args s' = true := vx_ot_at hW0 hvm.symm (hgood _ List.mem_cons_self) hk
  have hini' : (Cond.initialized cls).before args s' = true := vx_ot_at hW0 hvm.symm (hgood _ (List.mem_cons_of_mem _ List.mem_cons_self)) hini
  have hU' : vx_Zq Bundle.tN "UNASSIGNED_STACK" Bundle.steD A s' s'.heap := by rw [hhp]; exact vx_Zq.moved hW0.alike (hU.kept hS.2.1)
  have hN' : vx_Zq Bundle.tN "SUPPRESSED_SENTINEL" Bundle.listD A s' s'.heap := by rw [hhp]; exact vx_Zq.moved hW0.alike (hN.kept hS.2.1)
  have h : ∀ w ∈ Bundle.ownAtoms0 own ic cls names, w.before args s' = true := vx_own hat' (vx_isRefq hU'.1) (vx_isRefq hN'.1) hU'.2.word hN'.2.word
  have hown' : s'.vm.findClass own = some m.cls := by rw [hvm]; exact hown
  have hins : (Cond.instantiable cls 6).before args s' = true := h _ (by simp [Bundle.ownAtoms0])
  obtain ⟨vm₁, cX, kX, hfX, hkX, -, -, X₁, st1⟩ := Y.newCold hexec (own := own) (C := cls) (index := ik) (n := 6) hown' hk' hins hini'
    (g := F0 m pc ls rest) rfl (by rw [hb]; exact d0) (Nat.le_refl _) (Nat.le_refl _)
  generalize hT1 : (T.setVm vm₁).pushCell { cls := cX, slots := kX.instanceTypes.map defaultValue, vm := .none } = T1 at X₁ st1
  have hcat : (Value.ref T.heap.size).category = 1 := rfl
  have hcellA : T1.heap[T.heap.size]? = some (freshCell cX kX) := by rw [← hT1]; exact State.heap_pushCell_size _ _
  have d3' : decode c.code (pc + 3) = .ok (.dup, 1) := by rw [hb]; exact d3
  obtain ⟨U, hsteps, hrun, hend, hW, hsame, ce, hce, hO⟩ := X₁.ctorThrow0 hexec htr (own := own) (cls := cls) (names := names) (ic := ic) hown' hcls hnames h (fun x hx => nomatch hx) hfX hkX hcellA (by rw [hhp, hT]; exact Nat.le_refl _)
    (g := { method := m, pc := pc + 4, locals := ls, stack := .ref T.heap.size :: .ref T.heap.size :: rest, locked := none }) rfl hsize rfl rfl (rest := rest) rfl
    (by rw [hb]; exact d4) (by rw [hb]; exact d7) hout hRframes (by simp only [List.map_cons, List.sum_cons, hcat]; omega) hlocks
  obtain ⟨f1, f2⟩ := vx_frame hsame
  rw [hhp] at f1 f2
  have hWs : s.WarmedH U.vm := State.WarmedH.trans hW0 hW
  have hcl : s.vm.findClass cls = some ce.cls := by
    have h9 := hO.cls
    rw [hvm] at h9
    exact h9
  have hall : s.sameButNew ({ U with vm := s.vm } : State) locs mc ms := by
    subst hA
    obtain ⟨e1, e2⟩ := hsame
    rw [State.setFrames_setFrames] at e1
    have h2 : (T.setVm s.vm).sameButNew ({ U with vm := s.vm } : State) [] (0 + 1) (0 + 6) := ⟨e1, e2⟩
    have h3 := X.same.trans h2
    rw [List.append_nil] at h3
    exact h3.mono hc hs
  refine ⟨U, ?_, .threw T.heap.size, hrun, hend, Or.inr ⟨T.heap.size, rfl, cls, ce, locs, hx U hWs.alike f1 (fun q hq => f2 q hq (fun z hz => nomatch hz)), hce, hO.vm, hcl, hWs, hall, hf⟩⟩
  refine st1 _ ?_
  show Steps p.tables e below (T1.setTop { method := m, pc := pc + 3, locals := ls, stack := .ref T.heap.size :: rest, locked := none }) _
  jvm_step X₁.here [X₁.here.top, hexec, d3', Value.category]
  exact hsteps
/-- 'throw new E("text")': new; dup; ldc; invokespecial; athrow -/
theorem vx_throwS {cc : ByteArray} {pc : Nat} (hexec : p.tables.exec = Jvm.exec) (hb : c.code = cc) (hl : l.stackTraces = false) {own cls text : String} {names : List String} {ik is ic mc ms sa : Nat} {A : Nat → Prop}
    (hown : s.vm.findClass own = some m.cls) (hcls : Bundle.fit cls = true) (hnames : ∀ n ∈ names, Bundle.fit n = true)
    (hk : (Cond.classLink own ik cls).before args s = true) (hini : (Cond.initialized cls).before args s = true) (hstr : vk_R own is text sa s) (hat : ∀ w ∈ vx_atS own ic cls names, w.before args s = true)
    (hgood : ∀ w ∈ Cond.classLink own ik cls :: Cond.initialized cls :: vx_atS own ic cls names, vx_ot w = true)
    (hU : vx_Zq Bundle.tN "UNASSIGNED_STACK" Bundle.steD A s s.heap) (hN : vx_Zq Bundle.tN "SUPPRESSED_SENTINEL" Bundle.listD A s s.heap) (hS : va_S A s.heap H locs) (hsize : ls.size = c.maxLocals)
    (d0 : decode cc pc = .ok (.new ik, 3)) (d3 : decode cc (pc + 3) = .ok (.dup, 1)) (d4 : decode cc (pc + 4) = .ok (.ldc is, 2)) (d6 : decode cc (pc + 6) = .ok (.invokespecial ic, 3)) (d9 : decode cc (pc + 9) = .ok (.athrow, 1))
    (hout : ∀ x ∈ c.exceptionTable.toList, covers x (pc + 9) = false)
    (hRframes : names.length + 3 < R.frames) (hRlocals : (rest.map fun v => v.category).sum + (13 * (names.length + 1) + 43) ≤ R.locals) (hRcells : cells + 1 ≤ R.cells) (hRslots : slots + 6 ≤ R.slots) (hlocks : meth.locks = false)
    (hx : ∀ t : State, s.vm.Alike t.vm → H.size ≤ t.heap.size → (∀ q : Nat, q < H.size → t.heap[q]? = H[q]?) → XC cls s t)
    (hf : ∀ z ∈ locs, free z.base) (hc : cells + 1 ≤ mc) (hs : slots + 6 ≤ ms) :
    W p l e R s m args below meth c H locs cells slots (vx_MQ below Qc XC args s mc ms free) (F0 m pc ls rest) := by
  intro T hT X
  have htr : e.platform.stackTraces = false := (show e.platform.stackTraces = l.stackTraces by rw [X.admits.platform]).trans hl
  have Y := vx_rebase X (R' := { frames := R.frames, locals := R.locals, cells := 1, slots := 6 }) (Nat.le_refl _) (Nat.le_refl _) hRcells hRslots
  obtain ⟨s', hA⟩ : ∃ z, z = (T.setVm s.vm).setFrames (.invoking m args :: below) := ⟨_, rfl⟩
  rw [← hA] at Y
  have hvm : s'.vm = s.vm := by rw [hA]; rfl
  have hhp : s'.heap = H := by rw [hA]; exact hT
  have hW0 : s.WarmedH s'.vm := by rw [hvm]; exact State.WarmedH.refl s
  have hat' : ∀ w ∈ vx_atS own ic cls names, w.before args s' = true := fun w hw => vx_ot_at hW0 hvm.symm (hgood w (List.mem_cons_of_mem _ (List.mem_cons_of_mem _ hw))) (hat w hw)
  have hk' : (Cond.classLink own ik cls).before args s' = true := vx_ot_at hW0 hvm.symm (hgood _ List.mem_cons_self) hk
  have hini' : (Cond.initialized cls).before args s' = true := vx_ot_at hW0 hvm.symm (hgood _ (List.mem_cons_of_mem _ List.mem_cons_self)) hini
  have hU' : vx_Zq Bundle.tN "UNASSIGNED_STACK" Bundle.steD A s' s'.heap := by rw [hhp]; exact vx_Zq.moved hW0.alike (hU.kept hS.2.1)
  have hN' : vx_Zq Bundle.tN "SUPPRESSED_SENTINEL" Bundle.listD A s' s'.heap := by rw [hhp]; exact vx_Zq.moved hW0.alike (hN.kept hS.2.1)
  have h : ∀ w ∈ Bundle.ownAtoms own ic cls names, w.before args s' = true := vx_own hat' (vx_isRefq hU'.1) (vx_isRefq hN'.1) hU'.2.word hN'.2.word
  have hown' : s'.vm.findClass own = some m.cls := by rw [hvm]; exact hown
  have hins : (Cond.instantiable cls 6).before args s' = true := h _ (by simp [Bundle.ownAtoms])
  obtain ⟨vm₁, cX, kX, hfX, hkX, -, -, X₁, st1⟩ := Y.newCold hexec (own := own) (C := cls) (index := ik) (n := 6) hown' hk' hins hini'
    (g := F0 m pc ls rest) rfl (by rw [hb]; exact d0) (Nat.le_refl _) (Nat.le_refl _)
  generalize hT1 : (T.setVm vm₁).pushCell { cls := cX, slots := kX.instanceTypes.map defaultValue, vm := .none } = T1 at X₁ st1
  have hcat : (Value.ref T.heap.size).category = 1 := rfl
  have hcellA : T1.heap[T.heap.size]? = some (freshCell cX kX) := by rw [← hT1]; exact State.heap_pushCell_size _ _
  have d3' : decode c.code (pc + 3) = .ok (.dup, 1) := by rw [hb]; exact d3
  have d4' : decode c.code (pc + 4) = .ok (.ldc is, 2) := by rw [hb]; exact d4
  have hstr' : vk_R own is text sa s' := vk_R.warm hW0 hstr
  obtain ⟨U, hsteps, hrun, hend, hW, hsame, ce, hce, hO⟩ := X₁.ctorThrowS hexec htr (own := own) (cls := cls) (names := names) (ic := ic) hown' hcls hnames h (fun x hx => nomatch hx) hfX hkX hcellA (by rw [hhp, hT]; exact Nat.le_refl _) (msg := .ref sa) rfl
    (g := { method := m, pc := pc + 6, locals := ls, stack := .ref sa :: .ref T.heap.size :: .ref T.heap.size :: rest, locked := none }) rfl hsize rfl rfl (rest := rest) rfl
    (by rw [hb]; exact d6) (by rw [hb]; exact d9) hout hRframes (by simp only [List.map_cons, List.sum_cons, hcat]; omega) hlocks
  obtain ⟨f1, f2⟩ := vx_frame hsame
  rw [hhp] at f1 f2
  have hWs : s.WarmedH U.vm := State.WarmedH.trans hW0 hW
  have hcl : s.vm.findClass cls = some ce.cls := by
    have h9 := hO.cls
    rw [hvm] at h9
    exact h9
  have hall : s.sameButNew ({ U with vm := s.vm } : State) locs mc ms := by
    subst hA
    obtain ⟨e1, e2⟩ := hsame
    rw [State.setFrames_setFrames] at e1
    have h2 : (T.setVm s.vm).sameButNew ({ U with vm := s.vm } : State) [] (0 + 1) (0 + 6) := ⟨e1, e2⟩
    have h3 := X.same.trans h2
    rw [List.append_nil] at h3
    exact h3.mono hc hs
  refine ⟨U, ?_, .threw T.heap.size, hrun, hend, Or.inr ⟨T.heap.size, rfl, cls, ce, locs, hx U hWs.alike f1 (fun q hq => f2 q hq (fun z hz => nomatch hz)), hce, hO.vm, hcl, hWs, hall, hf⟩⟩
  refine st1 _ ?_
  show Steps p.tables e below (T1.setTop { method := m, pc := pc + 3, locals := ls, stack := .ref T.heap.size :: rest, locked := none }) _
  jvm_step X₁.here [X₁.here.top, hexec, d3', Value.category]
  exact X₁.ldcString hexec (own := own) (text := text) (index := is) (a := sa) hown' hstr'.1 hstr'.2
    (g := { method := m, pc := pc + 4, locals := ls, stack := .ref T.heap.size :: .ref T.heap.size :: rest, locked := none }) rfl d4' _ hsteps
/-- 'throw new E("text")', the text by a wide index -/
theorem vx_throwSW {cc : ByteArray} {pc : Nat} (hexec : p.tables.exec = Jvm.exec) (hb : c.code = cc) (hl : l.stackTraces = false) {own cls text : String} {names : List String} {ik is ic mc ms sa : Nat} {A : Nat → Prop}
    (hown : s.vm.findClass own = some m.cls) (hcls : Bundle.fit cls = true) (hnames : ∀ n ∈ names, Bundle.fit n = true)
    (hk : (Cond.classLink own ik cls).before args s = true) (hini : (Cond.initialized cls).before args s = true) (hstr : vk_R own is text sa s) (hat : ∀ w ∈ vx_atS own ic cls names, w.before args s = true)
    (hgood : ∀ w ∈ Cond.classLink own ik cls :: Cond.initialized cls :: vx_atS own ic cls names, vx_ot w = true)
    (hU : vx_Zq Bundle.tN "UNASSIGNED_STACK" Bundle.steD A s s.heap) (hN : vx_Zq Bundle.tN "SUPPRESSED_SENTINEL" Bundle.listD A s s.heap) (hS : va_S A s.heap H locs) (hsize : ls.size = c.maxLocals)
    (d0 : decode cc pc = .ok (.new ik, 3)) (d3 : decode cc (pc + 3) = .ok (.dup, 1)) (d4 : decode cc (pc + 4) = .ok (.ldc_w is, 3)) (d7 : decode cc (pc + 7) = .ok (.invokespecial ic, 3)) (d10 : decode cc (pc + 10) = .ok (.athrow, 1))
    (hout : ∀ x ∈ c.exceptionTable.toList, covers x (pc + 10) = false)
    (hRframes : names.length + 3 < R.frames) (hRlocals : (rest.map fun v => v.category).sum + (13 * (names.length + 1) + 43) ≤ R.locals) (hRcells : cells + 1 ≤ R.cells) (hRslots : slots + 6 ≤ R.slots) (hlocks : meth.locks = false)
    (hx : ∀ t : State, s.vm.Alike t.vm → H.size ≤ t.heap.size → (∀ q : Nat, q < H.size → t.heap[q]? = H[q]?) → XC cls s t)
    (hf : ∀ z ∈ locs, free z.base) (hc : cells + 1 ≤ mc) (hs : slots + 6 ≤ ms) :
    W p l e R s m args below meth c H locs cells slots (vx_MQ below Qc XC args s mc ms free) (F0 m pc ls rest) := by
  intro T hT X
  have htr : e.platform.stackTraces = false := (show e.platform.stackTraces = l.stackTraces by rw [X.admits.platform]).trans hl
  have Y := vx_rebase X (R' := { frames := R.frames, locals := R.locals, cells := 1, slots := 6 }) (Nat.le_refl _) (Nat.le_refl _) hRcells hRslots
  obtain ⟨s', hA⟩ : ∃ z, z = (T.setVm s.vm).setFrames (.invoking m args :: below) := ⟨_, rfl⟩
  rw [← hA] at Y
  have hvm : s'.vm = s.vm := by rw [hA]; rfl
  have hhp : s'.heap = H := by rw [hA]; exact hT
  have hW0 : s.WarmedH s'.vm := by rw [hvm]; exact State.WarmedH.refl s
  have hat' : ∀ w ∈ vx_atS own ic cls names, w.before args s' = true := fun w hw => vx_ot_at hW0 hvm.symm (hgood w (List.mem_cons_of_mem _ (List.mem_cons_of_mem _ hw))) (hat w hw)
  have hk' : (Cond.classLink own ik cls).before args s' = true := vx_ot_at hW0 hvm.symm (hgood _ List.mem_cons_self) hk
  have hini' : (Cond.initialized cls).before args s' = true := vx_ot_at hW0 hvm.symm (hgood _ (List.mem_cons_of_mem _ List.mem_cons_self)) hini
  have hU' : vx_Zq Bundle.tN "UNASSIGNED_STACK" Bundle.steD A s' s'.heap := by rw [hhp]; exact vx_Zq.moved hW0.alike (hU.kept hS.2.1)
  have hN' : vx_Zq Bundle.tN "SUPPRESSED_SENTINEL" Bundle.listD A s' s'.heap := by rw [hhp]; exact vx_Zq.moved hW0.alike (hN.kept hS.2.1)
  have h : ∀ w ∈ Bundle.ownAtoms own ic cls names, w.before args s' = true := vx_own hat' (vx_isRefq hU'.1) (vx_isRefq hN'.1) hU'.2.word hN'.2.word
  have hown' : s'.vm.findClass own = some m.cls := by rw [hvm]; exact hown
  have hins : (Cond.instantiable cls 6).before args s' = true := h _ (by simp [Bundle.ownAtoms])
  obtain ⟨vm₁, cX, kX, hfX, hkX, -, -, X₁, st1⟩ := Y.newCold hexec (own := own) (C := cls) (index := ik) (n := 6) hown' hk' hins hini'
    (g := F0 m pc ls rest) rfl (by rw [hb]; exact d0) (Nat.le_refl _) (Nat.le_refl _)
  generalize hT1 : (T.setVm vm₁).pushCell { cls := cX, slots := kX.instanceTypes.map defaultValue, vm := .none } = T1 at X₁ st1
  have hcat : (Value.ref T.heap.size).category = 1 := rfl
  have hcellA : T1.heap[T.heap.size]? = some (freshCell cX kX) := by rw [← hT1]; exact State.heap_pushCell_size _ _
  have d3' : decode c.code (pc + 3) = .ok (.dup, 1) := by rw [hb]; exact d3
  have d4' : decode c.code (pc + 4) = .ok (.ldc_w is, 3) := by rw [hb]; exact d4
  have hstr' : vk_R own is text sa s' := vk_R.warm hW0 hstr
  obtain ⟨U, hsteps, hrun, hend, hW, hsame, ce, hce, hO⟩ := X₁.ctorThrowS hexec htr (own := own) (cls := cls) (names := names) (ic := ic) hown' hcls hnames h (fun x hx => nomatch hx) hfX hkX hcellA (by rw [hhp, hT]; exact Nat.le_refl _) (msg := .ref sa) rfl
    (g := { method := m, pc := pc + 7, locals := ls, stack := .ref sa :: .ref T.heap.size :: .ref T.heap.size :: rest, locked := none }) rfl hsize rfl rfl (rest := rest) rfl
    (by rw [hb]; exact d7) (by rw [hb]; exact d10) hout hRframes (by simp only [List.map_cons, List.sum_cons, hcat]; omega) hlocks
  obtain ⟨f1, f2⟩ := vx_frame hsame
  rw [hhp] at f1 f2
  have hWs : s.WarmedH U.vm := State.WarmedH.trans hW0 hW
  have hcl : s.vm.findClass cls = some ce.cls := by
    have h9 := hO.cls
    rw [hvm] at h9
    exact h9
  have hall : s.sameButNew ({ U with vm := s.vm } : State) locs mc ms := by
    subst hA
    obtain ⟨e1, e2⟩ := hsame
    rw [State.setFrames_setFrames] at e1
    have h2 : (T.setVm s.vm).sameButNew ({ U with vm := s.vm } : State) [] (0 + 1) (0 + 6) := ⟨e1, e2⟩
    have h3 := X.same.trans h2
    rw [List.append_nil] at h3
    exact h3.mono hc hs
  refine ⟨U, ?_, .threw T.heap.size, hrun, hend, Or.inr ⟨T.heap.size, rfl, cls, ce, locs, hx U hWs.alike f1 (fun q hq => f2 q hq (fun z hz => nomatch hz)), hce, hO.vm, hcl, hWs, hall, hf⟩⟩
  refine st1 _ ?_
  show Steps p.tables e below (T1.setTop { method := m, pc := pc + 3, locals := ls, stack := .ref T.heap.size :: rest, locked := none }) _
  jvm_step X₁.here [X₁.here.top, hexec, d3', Value.category]
  exact X₁.ldcStringW hexec (own := own) (text := text) (index := is) (a := sa) hown' hstr'.1 hstr'.2
    (g := { method := m, pc := pc + 4, locals := ls, stack := .ref T.heap.size :: .ref T.heap.size :: rest, locked := none }) rfl d4' _ hsteps
end Ends
section Bodies
variable {l : Launch}
theorem vx_ofW {y : MethodName} {ws ws' : List Cond} {rm : Room} {Pc : Array Value → State → Prop} {Qc : Array Value → State → Outcome → State → Prop} {XC : String → State → State → Prop} {mc ms : Nat} {free : Addr → Prop} {cc : ByteArray} {maxL : Nat} {ret : Option FieldType}
    (hy : plainName y.cls = true) (hw : ws = Cond.code y cc maxL ret :: ws')
    (body : ∀ p e s m args below meth c s₁, BodyLoose p l y (headSpec ws rm) cc maxL ret e s m args below meth c s₁ → c.maxLocals = maxL → (∀ x ∈ c.exceptionTable.toList, False) → Pc args s →
      W p l e (headSpec ws rm).room s m args below meth c s.heap [] 0 0 (vx_MQ below Qc XC args s mc ms free) (entryFrame m args maxL)) : vx_Met l y ws rm Pc Qc XC mc ms free := by
  refine MetFree.of_bodyS (code := cc) (maxLocals := maxL) (ret := ret) hy ?_ ?_
  · intro args s m h hn
    obtain ⟨meth, c, h1, h2, h3, h4, h5, h6, -, -⟩ := Cond.code_spec hn (atoms_spec (ws := ws) h _ (by rw [hw]; exact List.mem_cons_self))
    exact ⟨meth, c, h1, h2, h3, h4, h5, h6⟩
  · intro p e s m args below meth c s₁ B hml hP _
    have hh0 : s₁.heap = s.heap := by rw [B.state]; rfl
    have ht : ∀ x ∈ c.exceptionTable.toList, False := by
      obtain ⟨meth9, c9, h1, h2, -, -, -, -, h7, -⟩ := Cond.code_spec B.named (atoms_spec (ws := ws) B.pre _ (by rw [hw]; exact List.mem_cons_self))
      cases Option.some.inj (h1.symm.trans B.method)
      cases Option.some.inj (h2.symm.trans (Stand.of_body B).code)
      intro x hx
      rw [Array.isEmpty_iff.mp h7] at hx
      cases hx
    obtain ⟨t, a1, o, b1, b2, b3⟩ := body p e s m args below meth c s₁ B hml ht hP s₁ hh0 (Stand.of_body B)
    exact ⟨t, o, a1, b1, b2, b3⟩
/-- the table of a body with handlers -/
theorem vx_table {p : Program} {x y : MethodName} {S : Spec} {cc bytes : ByteArray} {maxL maxL' : Nat} {ret ret' : Option FieldType} {e : Env} {s s₁ : State} {m : MethodId} {args : Array Value} {below : List Frame} {meth : Method} {c : Code} {hh : List (Nat × Nat × Nat × Nat)}
    (B : BodyLoose p l y S cc maxL ret e s m args below meth c s₁) (h : (Cond.codeWith y bytes maxL' ret' hh).before args s = true) : c.exceptionTable.toList = tableOf hh := by
  obtain ⟨m9, meth9, c9, hn9, h1, h2, -, -, h6, -⟩ := Cond.codeWith_spec h
  cases Option.some.inj (hn9.symm.trans B.named)
  cases Option.some.inj (h1.symm.trans B.method)
  cases Option.some.inj (h2.symm.trans (Stand.of_body B).code)
  rw [← h6, table_eq]
end Bodies
end VXA
/-! ===== END ===== -/
/-! ===== BEGIN a static call of a method with an exception table ===== -/
section VXS
variable {p : Program} {l : Launch} {e : Env} {R : Room} {s : State} {m : MethodId} {args : Array Value} {below : List Frame} {meth : Method} {c : Code} {T : State} {H : Heap} {locs : List Loc} {cells slots : Nat}
abbrev vx_CSW (R : Room) (s : State) (args : Array Value) (own : String) (index : Nat) (y : MethodName) (bytes : ByteArray) (maxL : Nat) (ret : Option FieldType) (hh : List (Nat × Nat × Nat × Nat)) (ws : List Cond) (rm : Room) (mc ms n : Nat) : Prop :=
  (rm.cells = mc ∧ rm.slots = ms ∧ rm.frames + 1 ≤ R.frames ∧ 8 + (maxL + 11) + rm.locals ≤ R.locals ∧ (∀ w ∈ ws, ∀ (a' : Array Value) (U : State), s.WarmedH U.vm → w.before a' U = true) ∧ Cond.codeWith y bytes maxL ret hh ∈ ws) ∧
  (Cond.codeWith y bytes maxL ret hh).before args s = true ∧ (Cond.initialized y.cls).before args s = true ∧ (y.cls ≠ "java/lang/invoke/MethodHandle" ∧ y.cls ≠ "java/lang/invoke/VarHandle") ∧
  (∀ sig, parseMethodDescriptor y.desc = some sig → n = sig.parameters.length) ∧ (Cond.methodLink own index y).before args s = true ∧ (Cond.static y).before args s = true
theorem vx_cwSW {own : String} {index maxL mc ms : Nat} {y : MethodName} {bytes : ByteArray} {ret : Option FieldType} {hh : List (Nat × Nat × Nat × Nat)} {Ts ws ws' : List Cond} {rm : Room} (n : Nat) (ht : ∀ w ∈ Ts, w.before args s = true) (hT : GoodIn Ts (va_wsS own index y ws)) (hw : ws = Cond.codeWith y bytes maxL ret hh :: ws') (hrc : rm.cells = mc) (hrs : rm.slots = ms)
    (hd : y.cls ≠ "java/lang/invoke/MethodHandle" ∧ y.cls ≠ "java/lang/invoke/VarHandle" ∧ (parseMethodDescriptor y.desc).map (fun d => d.parameters.length) = some n) (hR : rm.frames + 1 ≤ R.frames ∧ 8 + (maxL + 11) + rm.locals ≤ R.locals) :
    vx_CSW R s args own index y bytes maxL ret hh ws rm mc ms n := by
  have ok : ∀ w ∈ va_wsS own index y ws, w.before args s = true := fun w h => ht w (hT w h).1
  have hG : GoodIn Ts ws := fun w h => hT w (by unfold va_wsS; exact List.mem_append_right _ h)
  have hc : Cond.codeWith y bytes maxL ret hh ∈ ws := by rw [hw]; exact List.mem_cons_self
  refine ⟨⟨hrc, hrs, hR.1, hR.2, pay_in ht hG, hc⟩, ht _ (hG _ hc).1, ok _ (by simp [va_wsS]), ⟨hd.1, hd.2.1⟩, fun sig h => ?_, ok _ (by simp [va_wsS]), ok _ (by simp [va_wsS])⟩
  have h2 := hd.2.2
  rw [h] at h2
  exact (Option.some.inj h2).symm
theorem vx_callSW (X : Stand p l e R s m args below meth c T locs cells slots) (hexec : p.tables.exec = Jvm.exec) {own : String} {index : Nat} {y : MethodName} {bytes : ByteArray} {maxL : Nat} {ret : Option FieldType} {hh : List (Nat × Nat × Nat × Nat)}
    (hown : s.vm.findClass own = some m.cls) (hlink : (Cond.methodLink own index y).before args s = true) (hstat : (Cond.static y).before args s = true) (hinit : (Cond.initialized y.cls).before args s = true)
    (hcode : (Cond.codeWith y bytes maxL ret hh).before args s = true) (hy : y.cls ≠ "java/lang/invoke/MethodHandle" ∧ y.cls ≠ "java/lang/invoke/VarHandle")
    {W9 : Nat} {Pre : Pt → Array Value → Prop} {Post : Pt → Array Value → Option Value → Pt → Prop} (hK : Back l R p e below s args y 3 W9 Pre Post)
    {g : JFrame} (hg : g.method = m) (hsize : g.locals.size = c.maxLocals) {argsL rest : List Value} (hlen : ∀ sig, parseMethodDescriptor y.desc = some sig → argsL.length = sig.parameters.length)
    (hstack : g.stack = argsL.reverse ++ rest) (hW : 2 * g.monitorRoom + (rest.map fun v => v.category).sum ≤ W9) (hdg : decode c.code g.pc = .ok (.invokestatic index, 3))
    (hpre : ∀ vm₁, s.WarmedH vm₁ → Pre ⟨T.setVm vm₁, locs, cells, slots⟩ argsL.toArray) :
    ∃ (v : Option Value) (vm₁ : Vm) (B : Pt), s.WarmedH vm₁ ∧ Stand p l e R s m args below meth c B.U B.locs B.cells B.slots ∧ Post ⟨T.setVm vm₁, locs, cells, slots⟩ argsL.toArray v B ∧
      ∀ target, Steps p.tables e below (B.U.setTop { g with pc := g.pc + 3, stack := v.toList ++ rest }) target → Steps p.tables e below (T.setTop g) target := by
  obtain ⟨mk, methM, cM, hnamed, hmethM, -, -, -, -, -, -, hsigM⟩ := Cond.codeWith_spec hcode
  have hstatic : methM.isStatic = true := Cond.static_spec hnamed hmethM hstat
  obtain ⟨kP, hkP, -⟩ := className_of_methodNamed hnamed
  have hinitP : kP.init = .initialized := Cond.initialized_spec (findClass_of_methodNamed hnamed) hkP hinit
  obtain ⟨vm₁, X₁, hstep₁⟩ := X.invokestatic hexec hown hlink hnamed hmethM hstatic hkP hinitP hy (g := g) hg (argsL := argsL) (rest := rest) (hlen _ hsigM) hstack hdg
  obtain ⟨v, B, X', hpost, hsteps⟩ := hK m meth c ⟨T.setVm vm₁, locs, cells, slots⟩ { g with stack := rest } (.invokestatic index) mk argsL.toArray X₁ hg hsize hdg hW (X₁.named hnamed) (hpre vm₁ X₁.warmed)
  exact ⟨v, vm₁, B, X₁.warmed, X', hpost, fun target h => hstep₁ _ fun acts => by rw [doInvoke_state]; exact hsteps.trans h⟩
theorem vx_runSW {y : MethodName} {bytes cc : ByteArray} {maxL nL mc ms n index : Nat} {ret : Option FieldType} {hh : List (Nat × Nat × Nat × Nat)} {ws : List Cond} {rm : Room} {Pc : Array Value → State → Prop} {Qc : Array Value → State → Outcome → State → Prop} {free : Addr → Prop} {Ts : List Cond} {own : String} {As rest : List Value} {g : JFrame}
    (S : CallFix p m c cc nL s args Ts own) (hM : Met l y ws rm Pc Qc mc ms free) (cw : vx_CSW R s args own index y bytes maxL ret hh ws rm mc ms n) (hp : PreS s H Pc As)
    (hg : g.method = m) (hn : As.length = n) (hsize : g.locals.size = nL) (hstack : g.stack = As.reverse ++ rest) (hW : 2 * g.monitorRoom + (rest.map fun v => v.category).sum ≤ 8) (hdg : decode cc g.pc = .ok (.invokestatic index, 3)) (hf : cells + mc ≤ R.cells ∧ slots + ms ≤ R.slots) :
    va_Run p l e R s m args below meth c H locs cells slots mc ms g rest (Qc As.toArray) (free) := by
  obtain ⟨⟨hrc, hrs, hfr, hlo, hws, hcw⟩, hcode, hini, hy, hlen, hl, hstt⟩ := cw
  have hK : Back l R p e below s args y 3 8 (PreOf R mc ms Pc) (PostOf Qc mc ms free) := va_backW (hh := hh) (bytes := bytes) (maxL := maxL) (ret := ret) hM hp.1 hrc hrs hfr hlo hws hcw (fun a' U hW => word_at hW (Or.inl (by first | rfl | simp [Cond.onTables, Cond.keeps, Cond.steady])) hini)
  obtain ⟨hx, hb, hml, ho, -⟩ := S
  intro T hT X
  obtain ⟨v, vm₁, ⟨U', l2, c2, s2⟩, hW₁, X', ⟨g', mk, t, L, e1, e2, hq, h1, hL, h2, h3⟩, st⟩ := vx_callSW X hx (hh := hh) (bytes := bytes) (maxL := maxL) (ret := ret) ho hl hstt hini hcode hy hK hg (hsize.trans hml.symm) (argsL := As) (rest := rest) (fun sig h => hn.trans (hlen sig h)) hstack hW (by rw [hb]; exact hdg)
    (fun vm₁ hW₁ => ⟨hf.1, hf.2, hp.2 (T.setVm vm₁) hT hW₁⟩)
  dsimp only [Pt.U, Pt.locs, Pt.cells, Pt.slots] at X' e1 e2 h1 h2 h3 st
  subst h1; subst h2; subst h3
  exact ⟨v, (T.setVm vm₁).calling g' mk As.toArray, t, U', L, hT, X', hL, e1, e2, hq, st⟩
/-- not caught here, past rows that name other classes: it goes on to the caller -/
theorem vx_outP {p : Program} {l : Launch} {e : Env} {R : Room} {s : State} {m : MethodId} {args : Array Value} {below : List Frame} {meth : Method} {c : Code} {H : Heap} {locs : List Loc} {cells slots : Nat} {free : Addr → Prop} {ls : Array Slot} {rest : List Value} {Qc : Array Value → State → Outcome → State → Prop} {XC : String → State → State → Prop}
    {pc : Nat} {own E : String} {ce : Cell} {q : Addr} {mc ms : Nat} (hown : s.vm.findClass own = some m.cls) (hlocks : meth.locks = false)
    (hpass : ∀ z ∈ c.exceptionTable.toList, covers z pc = false ∨ (z.catchType ≠ 0 ∧ ∃ nm : String, (Cond.classLink own z.catchType nm).before args s = true ∧ va_Nc E nm s)) (hcell : H[q]? = some ce) (hv : ce.vm = .none) (hcl : s.vm.findClass E = some ce.cls)
    (hx : ∀ t : State, t.heap = H → s.vm.Alike t.vm → XC E s t) (hf : ∀ z ∈ locs, free z.base) (hc : cells ≤ mc) (hs : slots ≤ ms) :
    vx_W p l e R s m args below meth c H locs cells slots (vx_MQ below Qc XC args s mc ms free) (F0 m pc ls rest) q := by
  intro T hT X
  have hpl : e.platform.magicAccessors = ({} : Platform).magicAccessors := by rw [X.admits.platform]
  obtain ⟨vm', hW', X', st⟩ := X.outThrough hlocks q (g := F0 m pc ls rest) rfl rfl rfl (cell := ce) (by rw [hT]; exact hcell) (by rw [hv]; rfl)
    (by obtain ⟨k9, h9, -⟩ := Vm.findClass_spec hcl; exact ⟨k9, h9⟩) (fun z hz => by
      rcases hpass z hz with h | ⟨hz0, nm, hl1, hn1⟩
      · exact Or.inl h
      · obtain ⟨c6, hc6, hcl6⟩ := Cond.classLink_spec hown hl1 e.platform hpl
        obtain ⟨a8, b8, h1, h2, h3⟩ := hn1
        cases Option.some.inj (h1.symm.trans hcl)
        cases Option.some.inj (h2.symm.trans hc6)
        exact Or.inr ⟨hz0, _, hcl6, h3⟩)
  obtain ⟨g₀, hfr⟩ := X'.frames_eq
  have hcell9 : ((T.setVm vm').setFrames (.throwing q :: below)).heap[q]? = some ce := by
    show T.heap[q]? = some ce
    rw [hT]; exact hcell
  have hend : Ended ((T.setVm vm').setFrames (.throwing q :: below)) below (.threw q) := State.frames_setFrames _ (State.cur_lt_of_frames hfr)
  refine ⟨(T.setVm vm').setFrames (.throwing q :: below), ?_, .threw q, X'.here.running, hend, Or.inr ⟨q, rfl, E, ce, locs, hx _ hT (X'.ends _).1.alike, hcell9, hv, hcl, (X'.ends _).1, (X'.ends _).2.mono hc hs, hf⟩⟩
  rw [X.pushThrowing_eq]
  exact st
/-- a thing of a world lies in the heap -/
theorem vx_lt {D : va_G} {cl : List vw_C} {ws : va_W} {H1 : Heap} (h : va_P D cl ws H1) {k : Nat} {q : Nat × va_E} (hk : ws[k]? = some q) : q.1 < H1.size := (h k q hk).lt
end VXS
/-! ===== END ===== -/
/-! ===== BEGIN methods with a table of their own: called by a name, returning or throwing ===== -/
section VXH
/-! vx_backW, vx_callVX, vx_callSX, vx_callVW, vx_runVW, vx_runVX, vx_runSX, vx_ofWH follow the same proofs as their sisters above (Free/Laws.lean, Shelf42/LK1.lean); vx_outP calls Shelf42/NT130.lean (outThrough). -/
section
variable {l : Launch} {R : Room} {p : Program} {e : Env} {below : List Frame} {s : State} {sargs : Array Value} {y : MethodName} {len W9 : Nat}
theorem vx_backW {ws : List Cond} {rm : Room} {Pc : Array Value → State → Prop} {Qc : Array Value → State → Outcome → State → Prop} {XC : String → State → State → Prop} {mc ms : Nat} {free : Addr → Prop} {bytes : ByteArray} {maxL : Nat} {ret : Option FieldType} {hh : List (Nat × Nat × Nat × Nat)}
    (hM : vx_Met l y ws rm Pc Qc XC mc ms free) (hblind : FrameBlind Pc) (hrc : rm.cells = mc) (hrs : rm.slots = ms)
    (hframes : rm.frames + 1 ≤ R.frames) (hlocals : W9 + (maxL + 11) + rm.locals ≤ R.locals)
    (hws : ∀ w ∈ ws, ∀ a' U, s.WarmedH U.vm → w.before a' U = true) (hcode : Cond.codeWith y bytes maxL ret hh ∈ ws) (hinit : ∀ a' U, s.WarmedH U.vm → (Cond.initialized y.cls).before a' U = true) :
    vx_Back l R p e below s sargs y len W9 (PreOf R mc ms Pc) (PostOf Qc mc ms free) (vx_Post XC mc ms free) := by
  intro m meth c A g ig mk a X hg hsize hdg hW hn hp
  have h1 : (headSpec ws rm).pre.before a A.U = true := atoms_intro fun w hw => hws w hw _ _ X.warmed
  have h2 : (Cond.codeWith y bytes maxL ret hh).before a A.U = true := hws _ hcode _ _ X.warmed
  have h3 : (Cond.initialized y.cls).before a A.U = true := hinit _ _ X.warmed
  have h4 : A.cells + (headSpec ws rm).room.cells ≤ R.cells := by rw [show (headSpec ws rm).room.cells = mc from hrc]; exact hp.1
  have h5 : A.slots + (headSpec ws rm).room.slots ≤ R.slots := by rw [show (headSpec ws rm).room.slots = ms from hrs]; exact hp.2.1
  have hPc : Pc a (A.U.calling g mk a) := hblind _ _ _ _ hp.2.2
  obtain ⟨U, Ls, c0, s0⟩ := A
  dsimp only [Pt.U, Pt.locs, Pt.cells, Pt.slots] at h1 h2 h3 h4 h5 X hn hPc ⊢
  obtain ⟨m9, methY, cY, hn9, hmY, hcY, -, hlY, -⟩ := Cond.codeWith_spec h2
  cases Option.some.inj (hn9.symm.trans hn)
  obtain ⟨kY, hkY, -⟩ := className_of_methodNamed hn
  have hinitY : kY.init = .initialized := Cond.initialized_spec (findClass_of_methodNamed hn) hkY h3
  have h : At U g.method c below := by rw [hg]; exact X.here
  have hlocals9 : W9 + (maxL + 11) + (headSpec ws rm).room.locals ≤ R.locals := hlocals
  have happ : (headSpec ws rm).appliesLoose y e.platform (U.calling g mk a) = true :=
    Spec.appliesLoose_calling (g := g) h hdg hn hkY hinitY
      (X.room_calling (g := g) (R' := (headSpec ws rm).room) hsize hmY hcY hframes (by rw [hlY]; omega) h4 h5) h1
  obtain ⟨mid, hmid⟩ := h.above
  have hfr : (U.setTop g).frames = (.java g :: mid) ++ below := by rw [State.frames_setTop' g h.top, hmid]; rfl
  obtain ⟨o, s₂, hsteps, -, hend, hq⟩ := Steps.callFree hM p X.admits X.cas X.clock (acts := []) hfr happ hPc trivial
  have hq' : vx_Q Qc XC mc ms free a (U.calling g mk a) o s₂ := hq
  rw [State.frames_setTop' g h.top] at hend
  obtain ⟨g₀, hg0⟩ := Option.isSome_iff_exists.mp h.top
  obtain ⟨r, hr⟩ := State.topJava?_eq_some.mp hg0
  have hr' : (({ U with heap := s₂.heap, slotsUsed := s₂.slotsUsed } : State).setVm s₂.vm).frames = .java g₀ :: r := hr
  rcases hq' with ⟨hqc, L, hfe, hL⟩ | ⟨q, rfl, E, ce, L, hx, hce, hcv, hcl, hW₂, hsm, hL⟩
  · obtain ⟨⟨v, rfl⟩, hW₂, e2, q2, q3, q4, q5, q6⟩ := id hfe
    have e3 : s₂ = ({ (U.calling g mk a).setFrames s₂.frames with heap := s₂.heap, slotsUsed := s₂.slotsUsed } : State).setVm s₂.vm := by
      have : s₂ = ({ s₂ with vm := (U.calling g mk a).vm } : State).setVm s₂.vm := rfl
      rw [e2] at this
      exact this
    obtain ⟨c₂, i₂, len₂, hc₂, hd₂, hf₂⟩ := hend
    have hW' : U.WarmedH s₂.vm := hW₂
    have hcc : c₂ = c := by
      have h1 : s₂.code? g.method = U.code? g.method := by
        rw [State.code?_eq, State.code?_eq, hW'.alike.method?]
      exact Option.some.inj (hc₂.symm.trans (h1.trans h.code))
    subst hcc
    have hlen : len₂ = len := by rw [hdg] at hd₂; cases hd₂; rfl
    subst hlen
    have hs₂ : s₂ = (({ U with heap := s₂.heap, slotsUsed := s₂.slotsUsed } : State).setVm s₂.vm).setTop { g with pc := g.pc + len₂, stack := v.toList ++ g.stack } := by
      refine e3.trans ?_
      rw [hf₂, State.calling_eq h.top, State.setFrames_setFrames, State.setTop_of_frames _ hr', hr]
      rfl
    have hsame : U.sameButNew ({ U with heap := s₂.heap, slotsUsed := s₂.slotsUsed } : State) L mc ms := by
      refine ⟨?_, q2, q3, q4, q5, q6⟩
      obtain ⟨t, ht, -⟩ := State.frames_cons hr
      show ({ U with heap := s₂.heap, slotsUsed := s₂.slotsUsed } : State) = { U.setFrames U.frames with heap := s₂.heap, slotsUsed := s₂.slotsUsed }
      rw [State.setFrames_self ht]
    subst hg
    refine Or.inl ⟨v, ⟨(({ U with heap := s₂.heap, slotsUsed := s₂.slotsUsed } : State).setVm s₂.vm), Ls ++ L, c0 + mc, s0 + ms⟩,
      ⟨X.admits, X.cas, X.clock, X.frames, X.room, X.hears, X.method, X.code, (X.here.setHeapUsed s₂.heap s₂.slotsUsed).setVm hW'.alike, X.tail, State.WarmedH.trans X.warmed hW', X.limits, X.bytes, X.same.trans (hsame.setVm s.vm)⟩,
      ⟨g, mk, s₂, L, rfl, rfl, hqc, rfl, hL, rfl, rfl⟩, ?_⟩
    show Steps p.tables e below _ ((({ U with heap := s₂.heap, slotsUsed := s₂.slotsUsed } : State).setVm s₂.vm).setTop { g with pc := g.pc + len₂, stack := v.toList ++ g.stack })
    rw [← hs₂]
    exact hsteps
  · obtain ⟨e2, q2, q3, q4, q5, q6⟩ := id hsm
    have e3 : s₂ = ({ (U.calling g mk a).setFrames s₂.frames with heap := s₂.heap, slotsUsed := s₂.slotsUsed } : State).setVm s₂.vm := by
      have : s₂ = ({ s₂ with vm := (U.calling g mk a).vm } : State).setVm s₂.vm := rfl
      rw [e2] at this
      exact this
    have hf₂ : s₂.frames = .throwing q :: .java g :: U.frames.tail := hend
    have hW' : U.WarmedH s₂.vm := hW₂
    have hs₂ : s₂ = ((({ U with heap := s₂.heap, slotsUsed := s₂.slotsUsed } : State).setVm s₂.vm).setTop g).pushFrame (.throwing q) := by
      refine e3.trans ?_
      rw [hf₂, State.calling_eq h.top, State.setFrames_setFrames, State.pushFrame, State.frames_setTop _ hr', State.setTop_of_frames _ hr', State.setFrames_setFrames, hr]
      rfl
    have hsame : U.sameButNew ({ U with heap := s₂.heap, slotsUsed := s₂.slotsUsed } : State) L mc ms := by
      refine ⟨?_, q2, q3, q4, q5, q6⟩
      obtain ⟨t, ht, -⟩ := State.frames_cons hr
      show ({ U with heap := s₂.heap, slotsUsed := s₂.slotsUsed } : State) = { U.setFrames U.frames with heap := s₂.heap, slotsUsed := s₂.slotsUsed }
      rw [State.setFrames_self ht]
    subst hg
    refine Or.inr ⟨q, ⟨(({ U with heap := s₂.heap, slotsUsed := s₂.slotsUsed } : State).setVm s₂.vm), Ls ++ L, c0 + mc, s0 + ms⟩,
      ⟨X.admits, X.cas, X.clock, X.frames, X.room, X.hears, X.method, X.code, (X.here.setHeapUsed s₂.heap s₂.slotsUsed).setVm hW'.alike, X.tail, State.WarmedH.trans X.warmed hW', X.limits, X.bytes, X.same.trans (hsame.setVm s.vm)⟩,
      ⟨g, mk, s₂, L, E, ce, rfl, rfl, hx, hce, hcv, hcl, rfl, hL, rfl, rfl⟩, ?_⟩
    show Steps p.tables e below _ (((({ U with heap := s₂.heap, slotsUsed := s₂.slotsUsed } : State).setVm s₂.vm).setTop g).pushFrame (.throwing q))
    rw [← hs₂]
    exact hsteps
end
variable {p : Program} {l : Launch} {e : Env} {R : Room} {s : State} {m : MethodId} {args : Array Value} {below : List Frame} {meth : Method} {c : Code} {T : State} {H : Heap} {locs : List Loc} {cells slots : Nat}
theorem vx_callVX (X : Stand p l e R s m args below meth c T locs cells slots) (hexec : p.tables.exec = Jvm.exec) {own C : String} {index : Nat} {y : MethodName} {bytes : ByteArray} {maxL : Nat} {ret : Option FieldType} {hh : List (Nat × Nat × Nat × Nat)}
    (hown : s.vm.findClass own = some m.cls) (hlink : (Cond.methodLink own index y).before args s = true) (hinst : (Cond.instanceMethod y).before args s = true) (hsel : (Cond.selects C y y).before args s = true)
    (hcode : (Cond.codeWith y bytes maxL ret hh).before args s = true) (hy : y.cls ≠ "java/lang/invoke/MethodHandle" ∧ y.cls ≠ "java/lang/invoke/VarHandle")
    {W9 : Nat} {Pre : Pt → Array Value → Prop} {Post : Pt → Array Value → Option Value → Pt → Prop} {PostX : Pt → Array Value → Addr → Pt → Prop} (hK : vx_Back l R p e below s args y 3 W9 Pre Post PostX)
    {b : Addr} {cellB : Cell} (hcell : T.heap[b]? = some cellB) (hobj : cellB.vm.isStatics = false) (hcls : s.vm.findClass C = some cellB.cls)
    {g : JFrame} (hg : g.method = m) (hsize : g.locals.size = c.maxLocals) {argsL rest : List Value} (hlen : ∀ sig, parseMethodDescriptor y.desc = some sig → argsL.length = sig.parameters.length)
    (hstack : g.stack = argsL.reverse ++ .ref b :: rest) (hW : 2 * g.monitorRoom + (rest.map fun v => v.category).sum ≤ W9) (hdg : decode c.code g.pc = .ok (.invokevirtual index, 3))
    (hpre : ∀ vm₁, s.WarmedH vm₁ → Pre ⟨T.setVm vm₁, locs, cells, slots⟩ (Value.ref b :: argsL).toArray) :
    (∃ (v : Option Value) (vm₁ : Vm) (B : Pt), s.WarmedH vm₁ ∧ Stand p l e R s m args below meth c B.U B.locs B.cells B.slots ∧ Post ⟨T.setVm vm₁, locs, cells, slots⟩ (Value.ref b :: argsL).toArray v B ∧
      ∀ target, Steps p.tables e below (B.U.setTop { g with pc := g.pc + 3, stack := v.toList ++ rest }) target → Steps p.tables e below (T.setTop g) target) ∨
    (∃ (q : Addr) (vm₁ : Vm) (B : Pt), s.WarmedH vm₁ ∧ Stand p l e R s m args below meth c B.U B.locs B.cells B.slots ∧ PostX ⟨T.setVm vm₁, locs, cells, slots⟩ (Value.ref b :: argsL).toArray q B ∧
      Steps p.tables e below (T.setTop g) ((B.U.setTop { g with stack := rest }).pushFrame (.throwing q))) := by
  obtain ⟨mk, methM, hnamed, hmethM, hstM, habM⟩ := Cond.instanceMethod_spec hinst
  obtain ⟨m8, methM', cM, hn8, hmethM', -, -, -, -, -, -, hsigM⟩ := Cond.codeWith_spec hcode
  cases Option.some.inj (hn8.symm.trans hnamed)
  cases hmethM.symm.trans hmethM'
  obtain ⟨c2, r2, m2, q1, q2, q3, q4, kP, hkP, hkPi⟩ := Cond.selects_spec hsel
  cases hcls.symm.trans q1
  cases (State.methodFound?_of_named hnamed hy).symm.trans q2
  cases hnamed.symm.trans q3
  have hselP : selectMethod e.platform s.vm cellB.cls mk = .method mk := by rw [Launch.admits_selectMethod X.admits]; exact q4
  obtain ⟨vm₁, X₁, hstep₁⟩ := X.invokevirtual hexec hown hlink hnamed hmethM hstM hkP hkPi hy (a := b) (cell := cellB) hcell
    (fun z h => by rw [h] at hobj; cases hobj) hselP hmethM habM hkP hkPi (g := g) hg (argsL := argsL) (rest := rest) (hlen _ hsigM) hstack hdg
  rcases hK m meth c ⟨T.setVm vm₁, locs, cells, slots⟩ { g with stack := rest } (.invokevirtual index) mk (Value.ref b :: argsL).toArray X₁ hg hsize hdg hW (X₁.named hnamed) (hpre vm₁ X₁.warmed) with ⟨v, B, X', hpost, hsteps⟩ | ⟨q, B, X', hpost, hsteps⟩
  · exact Or.inl ⟨v, vm₁, B, X₁.warmed, X', hpost, fun target h => hstep₁ _ fun acts => by rw [doInvoke_state]; exact hsteps.trans h⟩
  · exact Or.inr ⟨q, vm₁, B, X₁.warmed, X', hpost, hstep₁ _ fun acts => by rw [doInvoke_state]; exact hsteps⟩
theorem vx_callSX (X : Stand p l e R s m args below meth c T locs cells slots) (hexec : p.tables.exec = Jvm.exec) {own : String} {index : Nat} {y : MethodName} {bytes : ByteArray} {maxL : Nat} {ret : Option FieldType} {hh : List (Nat × Nat × Nat × Nat)}
    (hown : s.vm.findClass own = some m.cls) (hlink : (Cond.methodLink own index y).before args s = true) (hstat : (Cond.static y).before args s = true) (hinit : (Cond.initialized y.cls).before args s = true)
    (hcode : (Cond.codeWith y bytes maxL ret hh).before args s = true) (hy : y.cls ≠ "java/lang/invoke/MethodHandle" ∧ y.cls ≠ "java/lang/invoke/VarHandle")
    {W9 : Nat} {Pre : Pt → Array Value → Prop} {Post : Pt → Array Value → Option Value → Pt → Prop} {PostX : Pt → Array Value → Addr → Pt → Prop} (hK : vx_Back l R p e below s args y 3 W9 Pre Post PostX)
    {g : JFrame} (hg : g.method = m) (hsize : g.locals.size = c.maxLocals) {argsL rest : List Value} (hlen : ∀ sig, parseMethodDescriptor y.desc = some sig → argsL.length = sig.parameters.length)
    (hstack : g.stack = argsL.reverse ++ rest) (hW : 2 * g.monitorRoom + (rest.map fun v => v.category).sum ≤ W9) (hdg : decode c.code g.pc = .ok (.invokestatic index, 3))
    (hpre : ∀ vm₁, s.WarmedH vm₁ → Pre ⟨T.setVm vm₁, locs, cells, slots⟩ argsL.toArray) :
    (∃ (v : Option Value) (vm₁ : Vm) (B : Pt), s.WarmedH vm₁ ∧ Stand p l e R s m args below meth c B.U B.locs B.cells B.slots ∧ Post ⟨T.setVm vm₁, locs, cells, slots⟩ argsL.toArray v B ∧
      ∀ target, Steps p.tables e below (B.U.setTop { g with pc := g.pc + 3, stack := v.toList ++ rest }) target → Steps p.tables e below (T.setTop g) target) ∨
    (∃ (q : Addr) (vm₁ : Vm) (B : Pt), s.WarmedH vm₁ ∧ Stand p l e R s m args below meth c B.U B.locs B.cells B.slots ∧ PostX ⟨T.setVm vm₁, locs, cells, slots⟩ argsL.toArray q B ∧
      Steps p.tables e below (T.setTop g) ((B.U.setTop { g with stack := rest }).pushFrame (.throwing q))) := by
  obtain ⟨mk, methM, cM, hnamed, hmethM, -, -, -, -, -, -, hsigM⟩ := Cond.codeWith_spec hcode
  have hstatic : methM.isStatic = true := Cond.static_spec hnamed hmethM hstat
  obtain ⟨kP, hkP, -⟩ := className_of_methodNamed hnamed
  have hinitP : kP.init = .initialized := Cond.initialized_spec (findClass_of_methodNamed hnamed) hkP hinit
  obtain ⟨vm₁, X₁, hstep₁⟩ := X.invokestatic hexec hown hlink hnamed hmethM hstatic hkP hinitP hy (g := g) hg (argsL := argsL) (rest := rest) (hlen _ hsigM) hstack hdg
  rcases hK m meth c ⟨T.setVm vm₁, locs, cells, slots⟩ { g with stack := rest } (.invokestatic index) mk argsL.toArray X₁ hg hsize hdg hW (X₁.named hnamed) (hpre vm₁ X₁.warmed) with ⟨v, B, X', hpost, hsteps⟩ | ⟨q, B, X', hpost, hsteps⟩
  · exact Or.inl ⟨v, vm₁, B, X₁.warmed, X', hpost, fun target h => hstep₁ _ fun acts => by rw [doInvoke_state]; exact hsteps.trans h⟩
  · exact Or.inr ⟨q, vm₁, B, X₁.warmed, X', hpost, hstep₁ _ fun acts => by rw [doInvoke_state]; exact hsteps⟩
theorem vx_callVW (X : Stand p l e R s m args below meth c T locs cells slots) (hexec : p.tables.exec = Jvm.exec) {own C : String} {index : Nat} {y : MethodName} {bytes : ByteArray} {maxL : Nat} {ret : Option FieldType} {hh : List (Nat × Nat × Nat × Nat)}
    (hown : s.vm.findClass own = some m.cls) (hlink : (Cond.methodLink own index y).before args s = true) (hinst : (Cond.instanceMethod y).before args s = true) (hsel : (Cond.selects C y y).before args s = true)
    (hcode : (Cond.codeWith y bytes maxL ret hh).before args s = true) (hy : y.cls ≠ "java/lang/invoke/MethodHandle" ∧ y.cls ≠ "java/lang/invoke/VarHandle")
    {W9 : Nat} {Pre : Pt → Array Value → Prop} {Post : Pt → Array Value → Option Value → Pt → Prop} (hK : Back l R p e below s args y 3 W9 Pre Post)
    {b : Addr} {cellB : Cell} (hcell : T.heap[b]? = some cellB) (hobj : cellB.vm.isStatics = false) (hcls : s.vm.findClass C = some cellB.cls)
    {g : JFrame} (hg : g.method = m) (hsize : g.locals.size = c.maxLocals) {argsL rest : List Value} (hlen : ∀ sig, parseMethodDescriptor y.desc = some sig → argsL.length = sig.parameters.length)
    (hstack : g.stack = argsL.reverse ++ .ref b :: rest) (hW : 2 * g.monitorRoom + (rest.map fun v => v.category).sum ≤ W9) (hdg : decode c.code g.pc = .ok (.invokevirtual index, 3))
    (hpre : ∀ vm₁, s.WarmedH vm₁ → Pre ⟨T.setVm vm₁, locs, cells, slots⟩ (Value.ref b :: argsL).toArray) :
    ∃ (v : Option Value) (vm₁ : Vm) (B : Pt), s.WarmedH vm₁ ∧ Stand p l e R s m args below meth c B.U B.locs B.cells B.slots ∧ Post ⟨T.setVm vm₁, locs, cells, slots⟩ (Value.ref b :: argsL).toArray v B ∧
      ∀ target, Steps p.tables e below (B.U.setTop { g with pc := g.pc + 3, stack := v.toList ++ rest }) target → Steps p.tables e below (T.setTop g) target := by
  obtain ⟨mk, methM, hnamed, hmethM, hstM, habM⟩ := Cond.instanceMethod_spec hinst
  obtain ⟨m8, methM', cM, hn8, hmethM', -, -, -, -, -, -, hsigM⟩ := Cond.codeWith_spec hcode
  cases Option.some.inj (hn8.symm.trans hnamed)
  cases hmethM.symm.trans hmethM'
  obtain ⟨c2, r2, m2, q1, q2, q3, q4, kP, hkP, hkPi⟩ := Cond.selects_spec hsel
  cases hcls.symm.trans q1
  cases (State.methodFound?_of_named hnamed hy).symm.trans q2
  cases hnamed.symm.trans q3
  have hselP : selectMethod e.platform s.vm cellB.cls mk = .method mk := by rw [Launch.admits_selectMethod X.admits]; exact q4
  obtain ⟨vm₁, X₁, hstep₁⟩ := X.invokevirtual hexec hown hlink hnamed hmethM hstM hkP hkPi hy (a := b) (cell := cellB) hcell
    (fun z h => by rw [h] at hobj; cases hobj) hselP hmethM habM hkP hkPi (g := g) hg (argsL := argsL) (rest := rest) (hlen _ hsigM) hstack hdg
  obtain ⟨v, B, X', hpost, hsteps⟩ := hK m meth c ⟨T.setVm vm₁, locs, cells, slots⟩ { g with stack := rest } (.invokevirtual index) mk (Value.ref b :: argsL).toArray X₁ hg hsize hdg hW (X₁.named hnamed) (hpre vm₁ X₁.warmed)
  exact ⟨v, vm₁, B, X₁.warmed, X', hpost, fun target h => hstep₁ _ fun acts => by rw [doInvoke_state]; exact hsteps.trans h⟩
abbrev vx_CVW (R : Room) (s : State) (args : Array Value) (own C : String) (index : Nat) (y : MethodName) (bytes : ByteArray) (maxL : Nat) (ret : Option FieldType) (hh : List (Nat × Nat × Nat × Nat)) (ws : List Cond) (rm : Room) (mc ms n : Nat) : Prop :=
  (rm.cells = mc ∧ rm.slots = ms ∧ rm.frames + 1 ≤ R.frames ∧ 8 + (maxL + 11) + rm.locals ≤ R.locals ∧ (∀ w ∈ ws, ∀ (a' : Array Value) (U : State), s.WarmedH U.vm → w.before a' U = true) ∧ Cond.codeWith y bytes maxL ret hh ∈ ws) ∧
  (Cond.codeWith y bytes maxL ret hh).before args s = true ∧ (Cond.initialized y.cls).before args s = true ∧ (y.cls ≠ "java/lang/invoke/MethodHandle" ∧ y.cls ≠ "java/lang/invoke/VarHandle") ∧
  (∀ sig, parseMethodDescriptor y.desc = some sig → n = sig.parameters.length) ∧ (Cond.methodLink own index y).before args s = true ∧ (Cond.instanceMethod y).before args s = true ∧ (Cond.selects C y y).before args s = true
theorem vx_cwVW {own C : String} {index maxL mc ms : Nat} {y : MethodName} {bytes : ByteArray} {ret : Option FieldType} {hh : List (Nat × Nat × Nat × Nat)} {Ts ws ws' : List Cond} {rm : Room} (n : Nat) (ht : ∀ w ∈ Ts, w.before args s = true) (hT : GoodIn Ts (wsV own index C y ws)) (hw : ws = Cond.codeWith y bytes maxL ret hh :: ws') (hrc : rm.cells = mc) (hrs : rm.slots = ms)
    (hd : y.cls = C ∧ y.cls ≠ "java/lang/invoke/MethodHandle" ∧ y.cls ≠ "java/lang/invoke/VarHandle" ∧ (parseMethodDescriptor y.desc).map (fun d => d.parameters.length) = some n) (hR : rm.frames + 1 ≤ R.frames ∧ 8 + (maxL + 11) + rm.locals ≤ R.locals) :
    vx_CVW R s args own C index y bytes maxL ret hh ws rm mc ms n := by
  obtain ⟨hC, hd⟩ := hd
  subst hC
  have ok : ∀ w ∈ wsV own index y.cls y ws, w.before args s = true := fun w h => ht w (hT w h).1
  have hG : GoodIn Ts ws := fun w h => hT w (by unfold wsV; exact List.mem_append_right _ h)
  have hc : Cond.codeWith y bytes maxL ret hh ∈ ws := by rw [hw]; exact List.mem_cons_self
  refine ⟨⟨hrc, hrs, hR.1, hR.2, pay_in ht hG, hc⟩, ht _ (hG _ hc).1, ok _ (by simp [wsV]), ⟨hd.1, hd.2.1⟩, fun sig h => ?_, ok _ (by simp [wsV]), ok _ (by simp [wsV]), ok _ (by simp [wsV])⟩
  have h2 := hd.2.2
  rw [h] at h2
  exact (Option.some.inj h2).symm
theorem vx_runVW {y : MethodName} {bytes cc : ByteArray} {maxL nL mc ms n index : Nat} {ret : Option FieldType} {hh : List (Nat × Nat × Nat × Nat)} {ws : List Cond} {rm : Room} {Pc : Array Value → State → Prop} {Qc : Array Value → State → Outcome → State → Prop} {free : Addr → Prop} {Ts : List Cond} {own C : String} {b : Addr} {As rest : List Value} {g : JFrame}
    (S : CallFix p m c cc nL s args Ts own) (hM : Met l y ws rm Pc Qc mc ms free) (cw : vx_CVW R s args own C index y bytes maxL ret hh ws rm mc ms n) (hp : PreV s H C b Pc As)
    (hg : g.method = m) (hn : As.length = n) (hsize : g.locals.size = nL) (hstack : g.stack = As.reverse ++ .ref b :: rest) (hW : 2 * g.monitorRoom + (rest.map fun v => v.category).sum ≤ 8) (hdg : decode cc g.pc = .ok (.invokevirtual index, 3)) (hf : cells + mc ≤ R.cells ∧ slots + ms ≤ R.slots) :
    va_Run p l e R s m args below meth c H locs cells slots mc ms g rest (Qc (Value.ref b :: As).toArray) free := by
  obtain ⟨⟨hrc, hrs, hfr, hlo, hws, hcw⟩, hcode, hini, hy, hlen, hl, hin, hse⟩ := cw
  have hK : Back l R p e below s args y 3 8 (PreOf R mc ms Pc) (PostOf Qc mc ms free) := va_backW (hh := hh) (bytes := bytes) (maxL := maxL) (ret := ret) hM hp.1 hrc hrs hfr hlo hws hcw (fun a' U hW => word_at hW (Or.inl (by first | rfl | simp [Cond.onTables, Cond.keeps, Cond.steady])) hini)
  obtain ⟨hx, hb, hml, ho, -⟩ := S
  obtain ⟨-, ⟨cellB, hcB, hoB, hclB⟩, hPc⟩ := hp
  intro T hT X
  obtain ⟨v, vm₁, ⟨U', l2, c2, s2⟩, hW₁, X', ⟨g', mk, t, L, e1, e2, hq, h1, hL, h2, h3⟩, st⟩ := vx_callVW X hx (C := C) (hh := hh) (bytes := bytes) (maxL := maxL) (ret := ret) ho hl hin hse hcode hy hK (by rw [hT]; exact hcB) hoB hclB hg (hsize.trans hml.symm) (argsL := As) (rest := rest) (fun sig h => hn.trans (hlen sig h)) hstack hW (by rw [hb]; exact hdg)
    (fun vm₁ hW₁ => ⟨hf.1, hf.2, hPc (T.setVm vm₁) hT hW₁⟩)
  dsimp only [Pt.U, Pt.locs, Pt.cells, Pt.slots] at X' e1 e2 h1 h2 h3 st
  subst h1; subst h2; subst h3
  exact ⟨v, (T.setVm vm₁).calling g' mk (Value.ref b :: As).toArray, t, U', L, hT, X', hL, e1, e2, hq, st⟩
section
variable {y : MethodName} {bytes cc : ByteArray} {maxL nL mc ms n index : Nat} {ret : Option FieldType} {ws : List Cond} {rm : Room} {Pc : Array Value → State → Prop} {Qc : Array Value → State → Outcome → State → Prop} {XC : String → State → State → Prop} {free : Addr → Prop} {Ts : List Cond} {own C : String} {b : Addr} {As rest : List Value} {g : JFrame}
theorem vx_runVX {hh : List (Nat × Nat × Nat × Nat)} (S : CallFix p m c cc nL s args Ts own) (hM : vx_Met l y ws rm Pc Qc XC mc ms free) (cw : vx_CVW R s args own C index y bytes maxL ret hh ws rm mc ms n) (hp : PreV s H C b Pc As)
    (hg : g.method = m) (hn : As.length = n) (hsize : g.locals.size = nL) (hstack : g.stack = As.reverse ++ .ref b :: rest) (hW : 2 * g.monitorRoom + (rest.map fun v => v.category).sum ≤ 8) (hdg : decode cc g.pc = .ok (.invokevirtual index, 3)) (hf : cells + mc ≤ R.cells ∧ slots + ms ≤ R.slots) :
    vx_Run p l e R s m args below meth c H locs cells slots mc ms g rest (Qc (Value.ref b :: As).toArray) XC free := by
  obtain ⟨⟨hrc, hrs, hfr, hlo, hws, hcw⟩, hcode, hini, hy, hlen, hl, hin, hse⟩ := cw
  have hK : vx_Back l R p e below s args y 3 8 (PreOf R mc ms Pc) (PostOf Qc mc ms free) (vx_Post XC mc ms free) := vx_backW (hh := hh) (bytes := bytes) (maxL := maxL) (ret := ret) hM hp.1 hrc hrs hfr hlo hws hcw (fun a' U hW => word_at hW (Or.inl (by first | rfl | simp [Cond.onTables, Cond.keeps, Cond.steady])) hini)
  obtain ⟨hx, hb, hml, ho, -⟩ := S
  obtain ⟨-, ⟨cellB, hcB, hoB, hclB⟩, hPc⟩ := hp
  intro T hT X
  rcases vx_callVX X hx (C := C) (hh := hh) (bytes := bytes) (maxL := maxL) (ret := ret) ho hl hin hse hcode hy hK (by rw [hT]; exact hcB) hoB hclB hg (hsize.trans hml.symm) (argsL := As) (rest := rest) (fun sig h => hn.trans (hlen sig h)) hstack hW (by rw [hb]; exact hdg)
    (fun vm₁ hW₁ => ⟨hf.1, hf.2, hPc (T.setVm vm₁) hT hW₁⟩) with ⟨v, vm₁, ⟨U', l2, c2, s2⟩, hW₁, X', ⟨g', mk, t, L, e1, e2, hq, h1, hL, h2, h3⟩, st⟩ | ⟨q, vm₁, ⟨U', l2, c2, s2⟩, hW₁, X', ⟨g', mk, t, L, E, ce, e1, e2, hq, hce, hcv, hcl, h1, hL, h2, h3⟩, st⟩
  · dsimp only [Pt.U, Pt.locs, Pt.cells, Pt.slots] at X' e1 e2 h1 h2 h3 st
    subst h1; subst h2; subst h3
    exact Or.inl ⟨v, (T.setVm vm₁).calling g' mk (Value.ref b :: As).toArray, t, U', L, hT, X', hL, e1, e2, hq, st⟩
  · dsimp only [Pt.U, Pt.locs, Pt.cells, Pt.slots] at X' e1 e2 h1 h2 h3 st hcl
    subst h1; subst h2; subst h3
    exact Or.inr ⟨q, (T.setVm vm₁).calling g' mk (Value.ref b :: As).toArray, t, U', L, E, ce, hT, X', hL, e1, e2, hq, hce, hcv, vx_cls hW₁ hcl, st⟩
theorem vx_runSX {hh : List (Nat × Nat × Nat × Nat)} (S : CallFix p m c cc nL s args Ts own) (hM : vx_Met l y ws rm Pc Qc XC mc ms free) (cw : vx_CSW R s args own index y bytes maxL ret hh ws rm mc ms n) (hp : PreS s H Pc As)
    (hg : g.method = m) (hn : As.length = n) (hsize : g.locals.size = nL) (hstack : g.stack = As.reverse ++ rest) (hW : 2 * g.monitorRoom + (rest.map fun v => v.category).sum ≤ 8) (hdg : decode cc g.pc = .ok (.invokestatic index, 3)) (hf : cells + mc ≤ R.cells ∧ slots + ms ≤ R.slots) :
    vx_Run p l e R s m args below meth c H locs cells slots mc ms g rest (Qc As.toArray) XC free := by
  obtain ⟨⟨hrc, hrs, hfr, hlo, hws, hcw⟩, hcode, hini, hy, hlen, hl, hstt⟩ := cw
  have hK : vx_Back l R p e below s args y 3 8 (PreOf R mc ms Pc) (PostOf Qc mc ms free) (vx_Post XC mc ms free) := vx_backW (hh := hh) (bytes := bytes) (maxL := maxL) (ret := ret) hM hp.1 hrc hrs hfr hlo hws hcw (fun a' U hW => word_at hW (Or.inl (by first | rfl | simp [Cond.onTables, Cond.keeps, Cond.steady])) hini)
  obtain ⟨hx, hb, hml, ho, -⟩ := S
  intro T hT X
  rcases vx_callSX X hx (hh := hh) (bytes := bytes) (maxL := maxL) (ret := ret) ho hl hstt hini hcode hy hK hg (hsize.trans hml.symm) (argsL := As) (rest := rest) (fun sig h => hn.trans (hlen sig h)) hstack hW (by rw [hb]; exact hdg)
    (fun vm₁ hW₁ => ⟨hf.1, hf.2, hp.2 (T.setVm vm₁) hT hW₁⟩) with ⟨v, vm₁, ⟨U', l2, c2, s2⟩, hW₁, X', ⟨g', mk, t, L, e1, e2, hq, h1, hL, h2, h3⟩, st⟩ | ⟨q, vm₁, ⟨U', l2, c2, s2⟩, hW₁, X', ⟨g', mk, t, L, E, ce, e1, e2, hq, hce, hcv, hcl, h1, hL, h2, h3⟩, st⟩
  · dsimp only [Pt.U, Pt.locs, Pt.cells, Pt.slots] at X' e1 e2 h1 h2 h3 st
    subst h1; subst h2; subst h3
    exact Or.inl ⟨v, (T.setVm vm₁).calling g' mk As.toArray, t, U', L, hT, X', hL, e1, e2, hq, st⟩
  · dsimp only [Pt.U, Pt.locs, Pt.cells, Pt.slots] at X' e1 e2 h1 h2 h3 st hcl
    subst h1; subst h2; subst h3
    exact Or.inr ⟨q, (T.setVm vm₁).calling g' mk As.toArray, t, U', L, E, ce, hT, X', hL, e1, e2, hq, hce, hcv, vx_cls hW₁ hcl, st⟩
end
end VXH
theorem vx_ofWH {l : Launch} {y : MethodName} {ws ws' : List Cond} {rm : Room} {Pc : Array Value → State → Prop} {Qc : Array Value → State → Outcome → State → Prop} {XC : String → State → State → Prop} {mc ms : Nat} {free : Addr → Prop} {cc : ByteArray} {maxL : Nat} {ret : Option FieldType} {hh : List (Nat × Nat × Nat × Nat)}
    (hy : plainName y.cls = true) (hw : ws = Cond.codeWith y cc maxL ret hh :: ws')
    (body : ∀ p e s m args below meth c s₁, BodyLoose p l y (headSpec ws rm) cc maxL ret e s m args below meth c s₁ → c.maxLocals = maxL → Pc args s →
      W p l e (headSpec ws rm).room s m args below meth c s.heap [] 0 0 (vx_MQ below Qc XC args s mc ms free) (entryFrame m args maxL)) : vx_Met l y ws rm Pc Qc XC mc ms free := by
  refine MetFree.of_bodyS (code := cc) (maxLocals := maxL) (ret := ret) hy ?_ ?_
  · intro args s m h hn
    obtain ⟨m9, meth, c, hn9, h1, h2, h3, h4, -, h5, h6, -⟩ := Cond.codeWith_spec (atoms_spec (ws := ws) h _ (by rw [hw]; exact List.mem_cons_self))
    cases hn.symm.trans hn9
    exact ⟨meth, c, h1, h2, h3, h4, h5, h6⟩
  · intro p e s m args below meth c s₁ B hml hP _
    have hh0 : s₁.heap = s.heap := by rw [B.state]; rfl
    obtain ⟨t, a1, o, b1, b2, b3⟩ := body p e s m args below meth c s₁ B hml hP s₁ hh0 (Stand.of_body B)
    exact ⟨t, o, a1, b1, b2, b3⟩
/-! ===== END ===== -/
end
section
def RX0 : String := "LorryArms$Gate"
def TX0 : u_T := fun k => match k with
  | 0 => ("LorryArms$Gate", "lanes", "[LLorryArms$Lane;", true)
  | 1 => ("LorryArms$Gate", "settings", "[I", true)
  | 2 => ("LorryArms$Gate", "laneCount", "I", false)
  | _ => ("LorryArms$Gate", "ticks", "I", false)
def tyX0 : Nat → FieldType := fun k => match k with
  | 0 => .array (.object "LorryArms$Lane")
  | 1 => .array .int
  | 2 => .int
  | _ => .int
abbrev wsX00 : List Cond := u_ws RX0 TX0 4
theorem nmX0 : ∀ a, a < 4 → ∀ b, b < 4 → a ≠ b → (TX0 a).2.1 ≠ (TX0 b).2.1 := by decide +kernel
theorem tyX0_ok : ∀ k, k < 4 → parseFieldDescriptor (TX0 k).2.2.1 = some (tyX0 k) := by decide +kernel
abbrev cX0_init : ByteArray := prog_2_method_1_code
def yX0_init : MethodName := ⟨RX0, "<init>", "()V"⟩
abbrev cX0_clear : ByteArray := prog_2_method_2_code
def yX0_clear : MethodName := ⟨RX0, "clear", "()V"⟩
abbrev cX0_copyFrom : ByteArray := prog_2_method_3_code
def yX0_copyFrom : MethodName := ⟨RX0, "copyFrom", "(LLorryArms$Gate;)V"⟩
abbrev cX0_hasLane : ByteArray := prog_2_method_4_code
def yX0_hasLane : MethodName := ⟨RX0, "hasLane", "(I)Z"⟩
abbrev cX0_addLane : ByteArray := prog_2_method_5_code
def yX0_addLane : MethodName := ⟨RX0, "addLane", "()Z"⟩
abbrev cX0_addVehicle : ByteArray := prog_2_method_6_code
def yX0_addVehicle : MethodName := ⟨RX0, "addVehicle", "(IIZZ)Z"⟩
abbrev cX0_changeLoop : ByteArray := prog_2_method_7_code
def yX0_changeLoop : MethodName := ⟨RX0, "changeLoop", "(IZ)Z"⟩
abbrev cX0_mendArm : ByteArray := prog_2_method_8_code
def yX0_mendArm : MethodName := ⟨RX0, "mendArm", "(I)Z"⟩
abbrev cX0_letTicksGo : ByteArray := prog_2_method_9_code
def yX0_letTicksGo : MethodName := ⟨RX0, "letTicksGo", "(I)Z"⟩
abbrev cX0_changeSetting : ByteArray := prog_2_method_10_code
def yX0_changeSetting : MethodName := ⟨RX0, "changeSetting", "(II)Z"⟩
abbrev cX0_total : ByteArray := prog_2_method_11_code
def yX0_total : MethodName := ⟨RX0, "total", "(I)I"⟩
abbrev cX0_armsUp : ByteArray := prog_2_method_12_code
def yX0_armsUp : MethodName := ⟨RX0, "armsUp", "()I"⟩
def RX1 : String := "LorryArms$Lane"
def TX1 : u_T := fun k => match k with
  | 0 => ("LorryArms$Lane", "lengths", "[I", true)
  | 1 => ("LorryArms$Lane", "fronts", "[I", true)
  | 2 => ("LorryArms$Lane", "lost", "[Z", true)
  | 3 => ("LorryArms$Lane", "follower", "[Z", true)
  | 4 => ("LorryArms$Lane", "let", "[Z", true)
  | 5 => ("LorryArms$Lane", "vehicles", "I", false)
  | 6 => ("LorryArms$Lane", "height", "I", false)
  | 7 => ("LorryArms$Lane", "hold", "I", false)
  | 8 => ("LorryArms$Lane", "learned", "I", false)
  | 9 => ("LorryArms$Lane", "checkedFor", "I", false)
  | 10 => ("LorryArms$Lane", "loopBroken", "Z", false)
  | 11 => ("LorryArms$Lane", "armBroken", "Z", false)
  | 12 => ("LorryArms$Lane", "passed", "I", false)
  | 13 => ("LorryArms$Lane", "letThrough", "I", false)
  | 14 => ("LorryArms$Lane", "slipped", "I", false)
  | 15 => ("LorryArms$Lane", "hits", "I", false)
  | _ => ("LorryArms$Lane", "lostLet", "I", false)
def tyX1 : Nat → FieldType := fun k => match k with
  | 0 => .array .int
  | 1 => .array .int
  | 2 => .array .boolean
  | 3 => .array .boolean
  | 4 => .array .boolean
  | 5 => .int
  | 6 => .int
  | 7 => .int
  | 8 => .int
  | 9 => .int
  | 10 => .boolean
  | 11 => .boolean
  | 12 => .int
  | 13 => .int
  | 14 => .int
  | 15 => .int
  | _ => .int
abbrev wsX10 : List Cond := u_ws RX1 TX1 17
theorem nmX1 : ∀ a, a < 17 → ∀ b, b < 17 → a ≠ b → (TX1 a).2.1 ≠ (TX1 b).2.1 := by decide +kernel
theorem tyX1_ok : ∀ k, k < 17 → parseFieldDescriptor (TX1 k).2.2.1 = some (tyX1 k) := by decide +kernel
abbrev cX1_init : ByteArray := prog_3_method_1_code
def yX1_init : MethodName := ⟨RX1, "<init>", "()V"⟩
abbrev cX1_clear : ByteArray := prog_3_method_2_code
def yX1_clear : MethodName := ⟨RX1, "clear", "()V"⟩
abbrev cX1_copyFrom : ByteArray := prog_3_method_3_code
def yX1_copyFrom : MethodName := ⟨RX1, "copyFrom", "(LLorryArms$Lane;)V"⟩
abbrev cX1_copyVehicle : ByteArray := prog_3_method_4_code
def yX1_copyVehicle : MethodName := ⟨RX1, "copyVehicle", "(LLorryArms$Lane;II)V"⟩
abbrev cX1_hasVehicle : ByteArray := prog_3_method_5_code
def yX1_hasVehicle : MethodName := ⟨RX1, "hasVehicle", "(I)Z"⟩
abbrev cX1_lastCell : ByteArray := prog_3_method_6_code
def yX1_lastCell : MethodName := ⟨RX1, "lastCell", "(I)I"⟩
abbrev cX1_addVehicle : ByteArray := prog_3_method_7_code
def yX1_addVehicle : MethodName := ⟨RX1, "addVehicle", "(IZZ)Z"⟩
abbrev cX1_tick : ByteArray := prog_3_method_8_code
def yX1_tick : MethodName := ⟨RX1, "tick", "([I)V"⟩
abbrev cX1_moveVehicles : ByteArray := prog_3_method_9_code
def yX1_moveVehicles : MethodName := ⟨RX1, "moveVehicles", "()V"⟩
abbrev cX1_canMove : ByteArray := prog_3_method_10_code
def yX1_canMove : MethodName := ⟨RX1, "canMove", "(I)Z"⟩
abbrev cX1_removeFirst : ByteArray := prog_3_method_11_code
def yX1_removeFirst : MethodName := ⟨RX1, "removeFirst", "()V"⟩
abbrev cX1_checkTicket : ByteArray := prog_3_method_12_code
def yX1_checkTicket : MethodName := ⟨RX1, "checkTicket", "(III)V"⟩
abbrev cX1_vehicleInCheck : ByteArray := prog_3_method_13_code
def yX1_vehicleInCheck : MethodName := ⟨RX1, "vehicleInCheck", "()I"⟩
abbrev cX1_moveArm : ByteArray := prog_3_method_14_code
def yX1_moveArm : MethodName := ⟨RX1, "moveArm", "(Z)V"⟩
abbrev cX1_reason : ByteArray := prog_3_method_15_code
def yX1_reason : MethodName := ⟨RX1, "reason", "()I"⟩
abbrev cX1_letVehicleWaits : ByteArray := prog_3_method_16_code
def yX1_letVehicleWaits : MethodName := ⟨RX1, "letVehicleWaits", "()Z"⟩
abbrev cX1_isLoopCovered : ByteArray := prog_3_method_17_code
def yX1_isLoopCovered : MethodName := ⟨RX1, "isLoopCovered", "()Z"⟩
abbrev cX1_isUnderArm : ByteArray := prog_3_method_18_code
def yX1_isUnderArm : MethodName := ⟨RX1, "isUnderArm", "()Z"⟩
abbrev cX1_hitIfUnderArm : ByteArray := prog_3_method_19_code
def yX1_hitIfUnderArm : MethodName := ⟨RX1, "hitIfUnderArm", "()V"⟩
abbrev cX1_countThrough : ByteArray := prog_3_method_20_code
def yX1_countThrough : MethodName := ⟨RX1, "countThrough", "()V"⟩
abbrev cX1_hasGoneThrough : ByteArray := prog_3_method_21_code
def yX1_hasGoneThrough : MethodName := ⟨RX1, "hasGoneThrough", "(I)Z"⟩
abbrev cX1_canBeMended : ByteArray := prog_3_method_22_code
def yX1_canBeMended : MethodName := ⟨RX1, "canBeMended", "()Z"⟩
abbrev cX1_countUnlet : ByteArray := prog_3_method_23_code
def yX1_countUnlet : MethodName := ⟨RX1, "countUnlet", "()I"⟩
abbrev cX1_number : ByteArray := prog_3_method_24_code
def yX1_number : MethodName := ⟨RX1, "number", "(I)I"⟩
abbrev cX1_numberOfVehicle : ByteArray := prog_3_method_25_code
def yX1_numberOfVehicle : MethodName := ⟨RX1, "numberOfVehicle", "(II)I"⟩
abbrev cX1_tally : ByteArray := prog_3_method_26_code
def yX1_tally : MethodName := ⟨RX1, "tally", "(I)I"⟩
def RX2 : String := "LorryArms"
def TX2 : u_T := fun k => match k with
  | 0 => ("LorryArms", "text", "[C", true)
  | 1 => ("LorryArms", "textLength", "I", false)
  | 2 => ("LorryArms", "present", "LLorryArms$Gate;", true)
  | 3 => ("LorryArms", "copy", "LLorryArms$Gate;", true)
  | 4 => ("LorryArms", "remembered", "[LLorryArms$Gate;", true)
  | 5 => ("LorryArms", "oldest", "I", false)
  | 6 => ("LorryArms", "rememberedCount", "I", false)
  | 7 => ("LorryArms", "slots", "[LLorryArms$Gate;", true)
  | _ => ("LorryArms", "saved", "[Z", true)
def tyX2 : Nat → FieldType := fun k => match k with
  | 0 => .array .char
  | 1 => .int
  | 2 => .object "LorryArms$Gate"
  | 3 => .object "LorryArms$Gate"
  | 4 => .array (.object "LorryArms$Gate")
  | 5 => .int
  | 6 => .int
  | 7 => .array (.object "LorryArms$Gate")
  | _ => .array .boolean
abbrev wsX20 : List Cond := u_ws RX2 TX2 9
theorem nmX2 : ∀ a, a < 9 → ∀ b, b < 9 → a ≠ b → (TX2 a).2.1 ≠ (TX2 b).2.1 := by decide +kernel
theorem tyX2_ok : ∀ k, k < 9 → parseFieldDescriptor (TX2 k).2.2.1 = some (tyX2 k) := by decide +kernel
abbrev cX2_init : ByteArray := prog_1_method_1_code
def yX2_init : MethodName := ⟨RX2, "<init>", "()V"⟩
abbrev cX2_append : ByteArray := prog_1_method_2_code
def yX2_append : MethodName := ⟨RX2, "append", "(I)I"⟩
abbrev cX2_clearText : ByteArray := prog_1_method_3_code
def yX2_clearText : MethodName := ⟨RX2, "clearText", "()I"⟩
abbrev cX2_errorPosition : ByteArray := prog_1_method_4_code
def yX2_errorPosition : MethodName := ⟨RX2, "errorPosition", "()I"⟩
abbrev cX2_load : ByteArray := prog_1_method_5_code
def yX2_load : MethodName := ⟨RX2, "load", "()I"⟩
abbrev cX2_signAt : ByteArray := prog_1_method_6_code
def yX2_signAt : MethodName := ⟨RX2, "signAt", "(I)I"⟩
abbrev cX2_digitAt : ByteArray := prog_1_method_7_code
def yX2_digitAt : MethodName := ⟨RX2, "digitAt", "(I)I"⟩
abbrev cX2_twoDigitsAt : ByteArray := prog_1_method_8_code
def yX2_twoDigitsAt : MethodName := ⟨RX2, "twoDigitsAt", "(I)I"⟩
abbrev cX2_wrongSignOf : ByteArray := prog_1_method_9_code
def yX2_wrongSignOf : MethodName := ⟨RX2, "wrongSignOf", "(I)I"⟩
abbrev cX2_fixedLength : ByteArray := prog_1_method_10_code
def yX2_fixedLength : MethodName := ⟨RX2, "fixedLength", "(I)I"⟩
abbrev cX2_isAllowed : ByteArray := prog_1_method_11_code
def yX2_isAllowed : MethodName := ⟨RX2, "isAllowed", "(IIII)Z"⟩
abbrev cX2_isLastDigitOfTicks : ByteArray := prog_1_method_12_code
def yX2_isLastDigitOfTicks : MethodName := ⟨RX2, "isLastDigitOfTicks", "(II)Z"⟩
abbrev cX2_isLastDigitOfLength : ByteArray := prog_1_method_13_code
def yX2_isLastDigitOfLength : MethodName := ⟨RX2, "isLastDigitOfLength", "(II)Z"⟩
abbrev cX2_isBetween : ByteArray := prog_1_method_14_code
def yX2_isBetween : MethodName := ⟨RX2, "isBetween", "(III)Z"⟩
abbrev cX2_commandLength : ByteArray := prog_1_method_15_code
def yX2_commandLength : MethodName := ⟨RX2, "commandLength", "(I)I"⟩
abbrev cX2_doCommand : ByteArray := prog_1_method_16_code
def yX2_doCommand : MethodName := ⟨RX2, "doCommand", "(I)Z"⟩
abbrev cX2_doArrival : ByteArray := prog_1_method_17_code
def yX2_doArrival : MethodName := ⟨RX2, "doArrival", "(I)Z"⟩
abbrev cX2_about : ByteArray := prog_1_method_18_code
def yX2_about : MethodName := ⟨RX2, "about", "(I)I"⟩
abbrev cX2_laneOf : ByteArray := prog_1_method_19_code
def yX2_laneOf : MethodName := ⟨RX2, "laneOf", "(II)I"⟩
abbrev cX2_vehicle : ByteArray := prog_1_method_20_code
def yX2_vehicle : MethodName := ⟨RX2, "vehicle", "(III)I"⟩
abbrev cX2_why : ByteArray := prog_1_method_21_code
def yX2_why : MethodName := ⟨RX2, "why", "(I)I"⟩
abbrev cX2_setting : ByteArray := prog_1_method_22_code
def yX2_setting : MethodName := ⟨RX2, "setting", "(I)I"⟩
abbrev cX2_checkLane : ByteArray := prog_1_method_23_code
def yX2_checkLane : MethodName := ⟨RX2, "checkLane", "(I)V"⟩
abbrev cX2_checkVehicle : ByteArray := prog_1_method_24_code
def yX2_checkVehicle : MethodName := ⟨RX2, "checkVehicle", "(II)V"⟩
abbrev cX2_checkLength : ByteArray := prog_1_method_25_code
def yX2_checkLength : MethodName := ⟨RX2, "checkLength", "(I)V"⟩
abbrev cX2_lane : ByteArray := prog_1_method_26_code
def yX2_lane : MethodName := ⟨RX2, "lane", "()I"⟩
abbrev cX2_arrive : ByteArray := prog_1_method_27_code
def yX2_arrive : MethodName := ⟨RX2, "arrive", "(IIZZ)I"⟩
abbrev cX2_loop : ByteArray := prog_1_method_28_code
def yX2_loop : MethodName := ⟨RX2, "loop", "(IZ)I"⟩
abbrev cX2_mend : ByteArray := prog_1_method_29_code
def yX2_mend : MethodName := ⟨RX2, "mend", "(I)I"⟩
abbrev cX2_run : ByteArray := prog_1_method_30_code
def yX2_run : MethodName := ⟨RX2, "run", "(I)I"⟩
abbrev cX2_set : ByteArray := prog_1_method_31_code
def yX2_set : MethodName := ⟨RX2, "set", "(II)I"⟩
abbrev cX2_undo : ByteArray := prog_1_method_32_code
def yX2_undo : MethodName := ⟨RX2, "undo", "()I"⟩
abbrev cX2_isSetting : ByteArray := prog_1_method_33_code
def yX2_isSetting : MethodName := ⟨RX2, "isSetting", "(II)Z"⟩
abbrev cX2_remember : ByteArray := prog_1_method_34_code
def yX2_remember : MethodName := ⟨RX2, "remember", "()V"⟩
abbrev cX2_forgetAll : ByteArray := prog_1_method_35_code
def yX2_forgetAll : MethodName := ⟨RX2, "forgetAll", "()V"⟩
abbrev cX2_emptyIn : ByteArray := prog_1_method_36_code
def yX2_emptyIn : MethodName := ⟨RX2, "emptyIn", "(I)I"⟩
abbrev cX2_throughIn : ByteArray := prog_1_method_37_code
def yX2_throughIn : MethodName := ⟨RX2, "throughIn", "(II)I"⟩
abbrev cX2_bestLane : ByteArray := prog_1_method_38_code
def yX2_bestLane : MethodName := ⟨RX2, "bestLane", "(I)I"⟩
abbrev cX2_coming : ByteArray := prog_1_method_39_code
def yX2_coming : MethodName := ⟨RX2, "coming", "(II)I"⟩
abbrev cX2_hitsIn : ByteArray := prog_1_method_40_code
def yX2_hitsIn : MethodName := ⟨RX2, "hitsIn", "(I)I"⟩
abbrev cX2_copyThroughIn : ByteArray := prog_1_method_41_code
def yX2_copyThroughIn : MethodName := ⟨RX2, "copyThroughIn", "(II)I"⟩
abbrev cX2_runScript : ByteArray := prog_1_method_42_code
def yX2_runScript : MethodName := ⟨RX2, "runScript", "(IJ)I"⟩
abbrev cX2_simulate : ByteArray := prog_1_method_43_code
def yX2_simulate : MethodName := ⟨RX2, "simulate", "(JI)I"⟩
abbrev cX2_withoutGroups : ByteArray := prog_1_method_44_code
def yX2_withoutGroups : MethodName := ⟨RX2, "withoutGroups", "(JI)J"⟩
abbrev cX2_doGroup : ByteArray := prog_1_method_45_code
def yX2_doGroup : MethodName := ⟨RX2, "doGroup", "(I)Z"⟩
abbrev cX2_doTurn : ByteArray := prog_1_method_46_code
def yX2_doTurn : MethodName := ⟨RX2, "doTurn", "(I)V"⟩
abbrev cX2_save : ByteArray := prog_1_method_47_code
def yX2_save : MethodName := ⟨RX2, "save", "(I)I"⟩
abbrev cX2_restore : ByteArray := prog_1_method_48_code
def yX2_restore : MethodName := ⟨RX2, "restore", "(I)I"⟩
abbrev cX2_checkSlot : ByteArray := prog_1_method_49_code
def yX2_checkSlot : MethodName := ⟨RX2, "checkSlot", "(I)V"⟩
def RX3 : String := "LorryArmsModel"
def TX3 : u_T := fun k => match k with
  | 0 => ("LorryArmsModel", "refusal", "I", false)
  | 1 => ("LorryArmsModel", "text", "[I", true)
  | 2 => ("LorryArmsModel", "size", "I", false)
  | 3 => ("LorryArmsModel", "now", "[I", true)
  | 4 => ("LorryArmsModel", "trial", "[I", true)
  | 5 => ("LorryArmsModel", "diary", "[I", true)
  | 6 => ("LorryArmsModel", "acts", "I", false)
  | 7 => ("LorryArmsModel", "kept", "[I", true)
  | 8 => ("LorryArmsModel", "isKept", "[Z", true)
  | 9 => ("LorryArmsModel", "moved", "[Z", true)
  | 10 => ("LorryArmsModel", "ups", "I", false)
  | 11 => ("LorryArmsModel", "spot", "I", false)
  | _ => ("LorryArmsModel", "out", "I", false)
def tyX3 : Nat → FieldType := fun k => match k with
  | 0 => .int
  | 1 => .array .int
  | 2 => .int
  | 3 => .array .int
  | 4 => .array .int
  | 5 => .array .int
  | 6 => .int
  | 7 => .array .int
  | 8 => .array .boolean
  | 9 => .array .boolean
  | 10 => .int
  | 11 => .int
  | _ => .int
abbrev wsX30 : List Cond := u_ws RX3 TX3 13
theorem nmX3 : ∀ a, a < 13 → ∀ b, b < 13 → a ≠ b → (TX3 a).2.1 ≠ (TX3 b).2.1 := by decide +kernel
theorem tyX3_ok : ∀ k, k < 13 → parseFieldDescriptor (TX3 k).2.2.1 = some (tyX3 k) := by decide +kernel
abbrev cX3_init : ByteArray := prog_5_method_1_code
def yX3_init : MethodName := ⟨RX3, "<init>", "()V"⟩
abbrev cX3_thrown : ByteArray := prog_5_method_2_code
def yX3_thrown : MethodName := ⟨RX3, "thrown", "()I"⟩
abbrev cX3_refused : ByteArray := prog_5_method_3_code
def yX3_refused : MethodName := ⟨RX3, "refused", "(I)Z"⟩
abbrev cX3_in : ByteArray := prog_5_method_4_code
def yX3_in : MethodName := ⟨RX3, "in", "(JJJ)Z"⟩
abbrev cX3_copyState : ByteArray := prog_5_method_5_code
def yX3_copyState : MethodName := ⟨RX3, "copyState", "([II[II)V"⟩
abbrev cX3_clear : ByteArray := prog_5_method_6_code
def yX3_clear : MethodName := ⟨RX3, "clear", "([I)V"⟩
abbrev cX3_isLane : ByteArray := prog_5_method_7_code
def yX3_isLane : MethodName := ⟨RX3, "isLane", "([II)Z"⟩
abbrev cX3_isVehicle : ByteArray := prog_5_method_8_code
def yX3_isVehicle : MethodName := ⟨RX3, "isVehicle", "([III)Z"⟩
abbrev cX3_of : ByteArray := prog_5_method_9_code
def yX3_of : MethodName := ⟨RX3, "of", "([III)I"⟩
abbrev cX3_lay : ByteArray := prog_5_method_10_code
def yX3_lay : MethodName := ⟨RX3, "lay", "([IIII)V"⟩
abbrev cX3_place : ByteArray := prog_5_method_11_code
def yX3_place : MethodName := ⟨RX3, "place", "(II)I"⟩
abbrev cX3_told : ByteArray := prog_5_method_12_code
def yX3_told : MethodName := ⟨RX3, "told", "([IIII)I"⟩
abbrev cX3_last : ByteArray := prog_5_method_13_code
def yX3_last : MethodName := ⟨RX3, "last", "([III)I"⟩
abbrev cX3_covers : ByteArray := prog_5_method_14_code
def yX3_covers : MethodName := ⟨RX3, "covers", "([IIII)Z"⟩
abbrev cX3_isCovered : ByteArray := prog_5_method_15_code
def yX3_isCovered : MethodName := ⟨RX3, "isCovered", "([II)Z"⟩
abbrev cX3_canMove : ByteArray := prog_5_method_16_code
def yX3_canMove : MethodName := ⟨RX3, "canMove", "([III)Z"⟩
abbrev cX3_dropFirst : ByteArray := prog_5_method_17_code
def yX3_dropFirst : MethodName := ⟨RX3, "dropFirst", "([II)V"⟩
abbrev cX3_moveAll : ByteArray := prog_5_method_18_code
def yX3_moveAll : MethodName := ⟨RX3, "moveAll", "([II)V"⟩
abbrev cX3_checked : ByteArray := prog_5_method_19_code
def yX3_checked : MethodName := ⟨RX3, "checked", "([II)I"⟩
abbrev cX3_check : ByteArray := prog_5_method_20_code
def yX3_check : MethodName := ⟨RX3, "check", "([II)V"⟩
abbrev cX3_reason : ByteArray := prog_5_method_21_code
def yX3_reason : MethodName := ⟨RX3, "reason", "([II)I"⟩
abbrev cX3_turnArm : ByteArray := prog_5_method_22_code
def yX3_turnArm : MethodName := ⟨RX3, "turnArm", "([II)V"⟩
abbrev cX3_hit : ByteArray := prog_5_method_23_code
def yX3_hit : MethodName := ⟨RX3, "hit", "([II)V"⟩
abbrev cX3_goThrough : ByteArray := prog_5_method_24_code
def yX3_goThrough : MethodName := ⟨RX3, "goThrough", "([II)V"⟩
abbrev cX3_tickOn : ByteArray := prog_5_method_25_code
def yX3_tickOn : MethodName := ⟨RX3, "tickOn", "([I)V"⟩
abbrev cX3_runOn : ByteArray := prog_5_method_26_code
def yX3_runOn : MethodName := ⟨RX3, "runOn", "([II)I"⟩
abbrev cX3_laneOn : ByteArray := prog_5_method_27_code
def yX3_laneOn : MethodName := ⟨RX3, "laneOn", "([I)I"⟩
abbrev cX3_isLength : ByteArray := prog_5_method_28_code
def yX3_isLength : MethodName := ⟨RX3, "isLength", "(I)Z"⟩
abbrev cX3_canArrive : ByteArray := prog_5_method_29_code
def yX3_canArrive : MethodName := ⟨RX3, "canArrive", "([III)Z"⟩
abbrev cX3_arriveOn : ByteArray := prog_5_method_30_code
def yX3_arriveOn : MethodName := ⟨RX3, "arriveOn", "([IIIZZ)I"⟩
abbrev cX3_sum : ByteArray := prog_5_method_31_code
def yX3_sum : MethodName := ⟨RX3, "sum", "([II)I"⟩
abbrev cX3_loopOn : ByteArray := prog_5_method_32_code
def yX3_loopOn : MethodName := ⟨RX3, "loopOn", "([IIZ)I"⟩
abbrev cX3_canMend : ByteArray := prog_5_method_33_code
def yX3_canMend : MethodName := ⟨RX3, "canMend", "([II)Z"⟩
abbrev cX3_mendOn : ByteArray := prog_5_method_34_code
def yX3_mendOn : MethodName := ⟨RX3, "mendOn", "([II)I"⟩
abbrev cX3_isSetting : ByteArray := prog_5_method_35_code
def yX3_isSetting : MethodName := ⟨RX3, "isSetting", "(II)Z"⟩
abbrev cX3_append : ByteArray := prog_5_method_36_code
def yX3_append : MethodName := ⟨RX3, "append", "(I)I"⟩
abbrev cX3_clearText : ByteArray := prog_5_method_37_code
def yX3_clearText : MethodName := ⟨RX3, "clearText", "()I"⟩
abbrev cX3_at : ByteArray := prog_5_method_38_code
def yX3_at : MethodName := ⟨RX3, "at", "(I)I"⟩
abbrev cX3_figures : ByteArray := prog_5_method_39_code
def yX3_figures : MethodName := ⟨RX3, "figures", "(IIII)I"⟩
abbrev cX3_sign : ByteArray := prog_5_method_40_code
def yX3_sign : MethodName := ⟨RX3, "sign", "(I)Z"⟩
abbrev cX3_done : ByteArray := prog_5_method_41_code
def yX3_done : MethodName := ⟨RX3, "done", "(Z)Z"⟩
abbrev cX3_readCommand : ByteArray := prog_5_method_42_code
def yX3_readCommand : MethodName := ⟨RX3, "readCommand", "([I)Z"⟩
abbrev cX3_readText : ByteArray := prog_5_method_43_code
def yX3_readText : MethodName := ⟨RX3, "readText", "([I)I"⟩
abbrev cX3_errorPosition : ByteArray := prog_5_method_44_code
def yX3_errorPosition : MethodName := ⟨RX3, "errorPosition", "()I"⟩
abbrev cX3_load : ByteArray := prog_5_method_45_code
def yX3_load : MethodName := ⟨RX3, "load", "()I"⟩
abbrev cX3_about : ByteArray := prog_5_method_46_code
def yX3_about : MethodName := ⟨RX3, "about", "(I)I"⟩
abbrev cX3_laneOf : ByteArray := prog_5_method_47_code
def yX3_laneOf : MethodName := ⟨RX3, "laneOf", "(II)I"⟩
abbrev cX3_vehicle : ByteArray := prog_5_method_48_code
def yX3_vehicle : MethodName := ⟨RX3, "vehicle", "(III)I"⟩
abbrev cX3_whyOf : ByteArray := prog_5_method_49_code
def yX3_whyOf : MethodName := ⟨RX3, "whyOf", "([II)I"⟩
abbrev cX3_why : ByteArray := prog_5_method_50_code
def yX3_why : MethodName := ⟨RX3, "why", "(I)I"⟩
abbrev cX3_setting : ByteArray := prog_5_method_51_code
def yX3_setting : MethodName := ⟨RX3, "setting", "(I)I"⟩
abbrev cX3_remember : ByteArray := prog_5_method_52_code
def yX3_remember : MethodName := ⟨RX3, "remember", "()V"⟩
abbrev cX3_lane : ByteArray := prog_5_method_53_code
def yX3_lane : MethodName := ⟨RX3, "lane", "()I"⟩
abbrev cX3_arrive : ByteArray := prog_5_method_54_code
def yX3_arrive : MethodName := ⟨RX3, "arrive", "(IIZZ)I"⟩
abbrev cX3_loop : ByteArray := prog_5_method_55_code
def yX3_loop : MethodName := ⟨RX3, "loop", "(IZ)I"⟩
abbrev cX3_mend : ByteArray := prog_5_method_56_code
def yX3_mend : MethodName := ⟨RX3, "mend", "(I)I"⟩
abbrev cX3_run : ByteArray := prog_5_method_57_code
def yX3_run : MethodName := ⟨RX3, "run", "(I)I"⟩
abbrev cX3_set : ByteArray := prog_5_method_58_code
def yX3_set : MethodName := ⟨RX3, "set", "(II)I"⟩
abbrev cX3_undo : ByteArray := prog_5_method_59_code
def yX3_undo : MethodName := ⟨RX3, "undo", "()I"⟩
abbrev cX3_emptyIn : ByteArray := prog_5_method_60_code
def yX3_emptyIn : MethodName := ⟨RX3, "emptyIn", "(I)I"⟩
abbrev cX3_through : ByteArray := prog_5_method_61_code
def yX3_through : MethodName := ⟨RX3, "through", "([III)I"⟩
abbrev cX3_throughIn : ByteArray := prog_5_method_62_code
def yX3_throughIn : MethodName := ⟨RX3, "throughIn", "(II)I"⟩
abbrev cX3_bestLane : ByteArray := prog_5_method_63_code
def yX3_bestLane : MethodName := ⟨RX3, "bestLane", "(I)I"⟩
abbrev cX3_coming : ByteArray := prog_5_method_64_code
def yX3_coming : MethodName := ⟨RX3, "coming", "(II)I"⟩
abbrev cX3_hitsIn : ByteArray := prog_5_method_65_code
def yX3_hitsIn : MethodName := ⟨RX3, "hitsIn", "(I)I"⟩
abbrev cX3_command : ByteArray := prog_5_method_66_code
def yX3_command : MethodName := ⟨RX3, "command", "(II)Z"⟩
abbrev cX3_runScript : ByteArray := prog_5_method_67_code
def yX3_runScript : MethodName := ⟨RX3, "runScript", "(IJ)I"⟩
abbrev cX3_turn : ByteArray := prog_5_method_68_code
def yX3_turn : MethodName := ⟨RX3, "turn", "(I)V"⟩
abbrev cX3_simulate : ByteArray := prog_5_method_69_code
def yX3_simulate : MethodName := ⟨RX3, "simulate", "(JI)I"⟩
abbrev cX3_save : ByteArray := prog_5_method_70_code
def yX3_save : MethodName := ⟨RX3, "save", "(I)I"⟩
abbrev cX3_restore : ByteArray := prog_5_method_71_code
def yX3_restore : MethodName := ⟨RX3, "restore", "(I)I"⟩
def RL : String := "LorryArmsLaw"
abbrev cL_append : ByteArray := method_3_code
def yL_append : MethodName := ⟨RL, "append", "(LLorryArms;I[J)I"⟩
abbrev cL_load : ByteArray := method_4_code
def yL_load : MethodName := ⟨RL, "load", "(LLorryArms;[J)I"⟩
abbrev cL_about : ByteArray := method_5_code
def yL_about : MethodName := ⟨RL, "about", "(LLorryArms;I[J)I"⟩
abbrev cL_laneOf : ByteArray := method_6_code
def yL_laneOf : MethodName := ⟨RL, "laneOf", "(LLorryArms;II[J)I"⟩
abbrev cL_vehicle : ByteArray := method_7_code
def yL_vehicle : MethodName := ⟨RL, "vehicle", "(LLorryArms;III[J)I"⟩
abbrev cL_why : ByteArray := method_8_code
def yL_why : MethodName := ⟨RL, "why", "(LLorryArms;I[J)I"⟩
abbrev cL_setting : ByteArray := method_9_code
def yL_setting : MethodName := ⟨RL, "setting", "(LLorryArms;I[J)I"⟩
abbrev cL_lane : ByteArray := method_10_code
def yL_lane : MethodName := ⟨RL, "lane", "(LLorryArms;[J)I"⟩
abbrev cL_arrive : ByteArray := method_11_code
def yL_arrive : MethodName := ⟨RL, "arrive", "(LLorryArms;IIZZ[J)I"⟩
abbrev cL_loop : ByteArray := method_12_code
def yL_loop : MethodName := ⟨RL, "loop", "(LLorryArms;IZ[J)I"⟩
abbrev cL_mend : ByteArray := method_13_code
def yL_mend : MethodName := ⟨RL, "mend", "(LLorryArms;I[J)I"⟩
abbrev cL_run : ByteArray := method_14_code
def yL_run : MethodName := ⟨RL, "run", "(LLorryArms;I[J)I"⟩
abbrev cL_set : ByteArray := method_15_code
def yL_set : MethodName := ⟨RL, "set", "(LLorryArms;II[J)I"⟩
abbrev cL_undo : ByteArray := method_16_code
def yL_undo : MethodName := ⟨RL, "undo", "(LLorryArms;[J)I"⟩
abbrev cL_emptyIn : ByteArray := method_17_code
def yL_emptyIn : MethodName := ⟨RL, "emptyIn", "(LLorryArms;I[J)I"⟩
abbrev cL_throughIn : ByteArray := method_18_code
def yL_throughIn : MethodName := ⟨RL, "throughIn", "(LLorryArms;II[J)I"⟩
abbrev cL_bestLane : ByteArray := method_19_code
def yL_bestLane : MethodName := ⟨RL, "bestLane", "(LLorryArms;I[J)I"⟩
abbrev cL_coming : ByteArray := method_20_code
def yL_coming : MethodName := ⟨RL, "coming", "(LLorryArms;II[J)I"⟩
abbrev cL_hitsIn : ByteArray := method_21_code
def yL_hitsIn : MethodName := ⟨RL, "hitsIn", "(LLorryArms;I[J)I"⟩
abbrev cL_runScript : ByteArray := method_22_code
def yL_runScript : MethodName := ⟨RL, "runScript", "(LLorryArms;IJ[J)I"⟩
abbrev cL_simulate : ByteArray := method_23_code
def yL_simulate : MethodName := ⟨RL, "simulate", "(LLorryArms;JI[J)I"⟩
abbrev cL_save : ByteArray := method_24_code
def yL_save : MethodName := ⟨RL, "save", "(LLorryArms;I[J)I"⟩
abbrev cL_restore : ByteArray := method_25_code
def yL_restore : MethodName := ⟨RL, "restore", "(LLorryArms;I[J)I"⟩
abbrev cL_law : ByteArray := code
def yL_law : MethodName := ⟨RL, "law", "([I)Z"⟩
abbrev vwCl : List vw_C := [(RX0, TX0, 4), (RX1, TX1, 17), (RX2, TX2, 9), (RX3, TX3, 13)]
end
section
theorem dX0_init_0 : decode cX0_init 0 = .ok (.aload_n 0, 1) := by decide +kernel
theorem dX0_init_1 : decode cX0_init 1 = .ok (.invokespecial 3, 3) := by decide +kernel
theorem dX0_init_4 : decode cX0_init 4 = .ok (.aload_n 0, 1) := by decide +kernel
theorem dX0_init_5 : decode cX0_init 5 = .ok (.iconst 3, 1) := by decide +kernel
theorem dX0_init_6 : decode cX0_init 6 = .ok (.anewarray 9, 3) := by decide +kernel
theorem dX0_init_9 : decode cX0_init 9 = .ok (.putfield 11, 3) := by decide +kernel
theorem dX0_init_12 : decode cX0_init 12 = .ok (.aload_n 0, 1) := by decide +kernel
theorem dX0_init_13 : decode cX0_init 13 = .ok (.iconst 3, 1) := by decide +kernel
theorem dX0_init_14 : decode cX0_init 14 = .ok (.newarray .int, 2) := by decide +kernel
theorem dX0_init_16 : decode cX0_init 16 = .ok (.putfield 17, 3) := by decide +kernel
theorem dX0_init_19 : decode cX0_init 19 = .ok (.iconst 0, 1) := by decide +kernel
theorem dX0_init_20 : decode cX0_init 20 = .ok (.istore_n 1, 1) := by decide +kernel
theorem dX0_init_21 : decode cX0_init 21 = .ok (.iload_n 1, 1) := by decide +kernel
theorem dX0_init_22 : decode cX0_init 22 = .ok (.iconst 3, 1) := by decide +kernel
theorem dX0_init_23 : decode cX0_init 23 = .ok (.if_icmp .ge 22, 3) := by decide +kernel
theorem dX0_init_26 : decode cX0_init 26 = .ok (.aload_n 0, 1) := by decide +kernel
theorem dX0_init_27 : decode cX0_init 27 = .ok (.getfield 11, 3) := by decide +kernel
theorem dX0_init_30 : decode cX0_init 30 = .ok (.iload_n 1, 1) := by decide +kernel
theorem dX0_init_31 : decode cX0_init 31 = .ok (.new 9, 3) := by decide +kernel
theorem dX0_init_34 : decode cX0_init 34 = .ok (.dup, 1) := by decide +kernel
theorem dX0_init_35 : decode cX0_init 35 = .ok (.invokespecial 21, 3) := by decide +kernel
theorem dX0_init_38 : decode cX0_init 38 = .ok (.aastore, 1) := by decide +kernel
theorem dX0_init_39 : decode cX0_init 39 = .ok (.iinc 1 1, 3) := by decide +kernel
theorem dX0_init_42 : decode cX0_init 42 = .ok (.goto (-21), 3) := by decide +kernel
theorem dX0_init_45 : decode cX0_init 45 = .ok (.aload_n 0, 1) := by decide +kernel
theorem dX0_init_46 : decode cX0_init 46 = .ok (.invokevirtual 22, 3) := by decide +kernel
theorem dX0_init_49 : decode cX0_init 49 = .ok (.return_, 1) := by decide +kernel
theorem dX0_clear_0 : decode cX0_clear 0 = .ok (.aload_n 0, 1) := by decide +kernel
theorem dX0_clear_1 : decode cX0_clear 1 = .ok (.iconst 0, 1) := by decide +kernel
theorem dX0_clear_2 : decode cX0_clear 2 = .ok (.putfield 25, 3) := by decide +kernel
theorem dX0_clear_5 : decode cX0_clear 5 = .ok (.aload_n 0, 1) := by decide +kernel
theorem dX0_clear_6 : decode cX0_clear 6 = .ok (.iconst 0, 1) := by decide +kernel
theorem dX0_clear_7 : decode cX0_clear 7 = .ok (.putfield 29, 3) := by decide +kernel
theorem dX0_clear_10 : decode cX0_clear 10 = .ok (.aload_n 0, 1) := by decide +kernel
theorem dX0_clear_11 : decode cX0_clear 11 = .ok (.getfield 17, 3) := by decide +kernel
theorem dX0_clear_14 : decode cX0_clear 14 = .ok (.iconst 0, 1) := by decide +kernel
theorem dX0_clear_15 : decode cX0_clear 15 = .ok (.iconst 3, 1) := by decide +kernel
theorem dX0_clear_16 : decode cX0_clear 16 = .ok (.iastore, 1) := by decide +kernel
theorem dX0_clear_17 : decode cX0_clear 17 = .ok (.aload_n 0, 1) := by decide +kernel
theorem dX0_clear_18 : decode cX0_clear 18 = .ok (.getfield 17, 3) := by decide +kernel
theorem dX0_clear_21 : decode cX0_clear 21 = .ok (.iconst 1, 1) := by decide +kernel
theorem dX0_clear_22 : decode cX0_clear 22 = .ok (.bipush 12, 2) := by decide +kernel
theorem dX0_clear_24 : decode cX0_clear 24 = .ok (.iastore, 1) := by decide +kernel
theorem dX0_clear_25 : decode cX0_clear 25 = .ok (.aload_n 0, 1) := by decide +kernel
theorem dX0_clear_26 : decode cX0_clear 26 = .ok (.getfield 17, 3) := by decide +kernel
theorem dX0_clear_29 : decode cX0_clear 29 = .ok (.iconst 2, 1) := by decide +kernel
theorem dX0_clear_30 : decode cX0_clear 30 = .ok (.iconst 2, 1) := by decide +kernel
theorem dX0_clear_31 : decode cX0_clear 31 = .ok (.iastore, 1) := by decide +kernel
theorem dX0_clear_32 : decode cX0_clear 32 = .ok (.return_, 1) := by decide +kernel
theorem dX0_copyFrom_0 : decode cX0_copyFrom 0 = .ok (.aload_n 0, 1) := by decide +kernel
theorem dX0_copyFrom_1 : decode cX0_copyFrom 1 = .ok (.aload_n 1, 1) := by decide +kernel
theorem dX0_copyFrom_2 : decode cX0_copyFrom 2 = .ok (.getfield 25, 3) := by decide +kernel
theorem dX0_copyFrom_5 : decode cX0_copyFrom 5 = .ok (.putfield 25, 3) := by decide +kernel
theorem dX0_copyFrom_8 : decode cX0_copyFrom 8 = .ok (.aload_n 0, 1) := by decide +kernel
theorem dX0_copyFrom_9 : decode cX0_copyFrom 9 = .ok (.aload_n 1, 1) := by decide +kernel
theorem dX0_copyFrom_10 : decode cX0_copyFrom 10 = .ok (.getfield 29, 3) := by decide +kernel
theorem dX0_copyFrom_13 : decode cX0_copyFrom 13 = .ok (.putfield 29, 3) := by decide +kernel
theorem dX0_copyFrom_16 : decode cX0_copyFrom 16 = .ok (.aload_n 1, 1) := by decide +kernel
theorem dX0_copyFrom_17 : decode cX0_copyFrom 17 = .ok (.getfield 17, 3) := by decide +kernel
theorem dX0_copyFrom_20 : decode cX0_copyFrom 20 = .ok (.iconst 0, 1) := by decide +kernel
theorem dX0_copyFrom_21 : decode cX0_copyFrom 21 = .ok (.aload_n 0, 1) := by decide +kernel
theorem dX0_copyFrom_22 : decode cX0_copyFrom 22 = .ok (.getfield 17, 3) := by decide +kernel
theorem dX0_copyFrom_25 : decode cX0_copyFrom 25 = .ok (.iconst 0, 1) := by decide +kernel
theorem dX0_copyFrom_26 : decode cX0_copyFrom 26 = .ok (.iconst 3, 1) := by decide +kernel
theorem dX0_copyFrom_27 : decode cX0_copyFrom 27 = .ok (.invokestatic 32, 3) := by decide +kernel
theorem dX0_copyFrom_30 : decode cX0_copyFrom 30 = .ok (.iconst 0, 1) := by decide +kernel
theorem dX0_copyFrom_31 : decode cX0_copyFrom 31 = .ok (.istore_n 2, 1) := by decide +kernel
theorem dX0_copyFrom_32 : decode cX0_copyFrom 32 = .ok (.iload_n 2, 1) := by decide +kernel
theorem dX0_copyFrom_33 : decode cX0_copyFrom 33 = .ok (.iconst 3, 1) := by decide +kernel
theorem dX0_copyFrom_34 : decode cX0_copyFrom 34 = .ok (.if_icmp .ge 24, 3) := by decide +kernel
theorem dX0_copyFrom_37 : decode cX0_copyFrom 37 = .ok (.aload_n 0, 1) := by decide +kernel
theorem dX0_copyFrom_38 : decode cX0_copyFrom 38 = .ok (.getfield 11, 3) := by decide +kernel
theorem dX0_copyFrom_41 : decode cX0_copyFrom 41 = .ok (.iload_n 2, 1) := by decide +kernel
theorem dX0_copyFrom_42 : decode cX0_copyFrom 42 = .ok (.aaload, 1) := by decide +kernel
theorem dX0_copyFrom_43 : decode cX0_copyFrom 43 = .ok (.aload_n 1, 1) := by decide +kernel
theorem dX0_copyFrom_44 : decode cX0_copyFrom 44 = .ok (.getfield 11, 3) := by decide +kernel
theorem dX0_copyFrom_47 : decode cX0_copyFrom 47 = .ok (.iload_n 2, 1) := by decide +kernel
theorem dX0_copyFrom_48 : decode cX0_copyFrom 48 = .ok (.aaload, 1) := by decide +kernel
theorem dX0_copyFrom_49 : decode cX0_copyFrom 49 = .ok (.invokevirtual 38, 3) := by decide +kernel
theorem dX0_copyFrom_52 : decode cX0_copyFrom 52 = .ok (.iinc 2 1, 3) := by decide +kernel
theorem dX0_copyFrom_55 : decode cX0_copyFrom 55 = .ok (.goto (-23), 3) := by decide +kernel
theorem dX0_copyFrom_58 : decode cX0_copyFrom 58 = .ok (.return_, 1) := by decide +kernel
theorem dX0_hasLane_0 : decode cX0_hasLane 0 = .ok (.iload_n 1, 1) := by decide +kernel
theorem dX0_hasLane_1 : decode cX0_hasLane 1 = .ok (.ifCond .lt 20, 3) := by decide +kernel
theorem dX0_hasLane_4 : decode cX0_hasLane 4 = .ok (.iload_n 1, 1) := by decide +kernel
theorem dX0_hasLane_5 : decode cX0_hasLane 5 = .ok (.aload_n 0, 1) := by decide +kernel
theorem dX0_hasLane_6 : decode cX0_hasLane 6 = .ok (.getfield 25, 3) := by decide +kernel
theorem dX0_hasLane_9 : decode cX0_hasLane 9 = .ok (.if_icmp .ge 12, 3) := by decide +kernel
theorem dX0_hasLane_12 : decode cX0_hasLane 12 = .ok (.iload_n 1, 1) := by decide +kernel
theorem dX0_hasLane_13 : decode cX0_hasLane 13 = .ok (.iconst 3, 1) := by decide +kernel
theorem dX0_hasLane_14 : decode cX0_hasLane 14 = .ok (.if_icmp .ge 7, 3) := by decide +kernel
theorem dX0_hasLane_17 : decode cX0_hasLane 17 = .ok (.iconst 1, 1) := by decide +kernel
theorem dX0_hasLane_18 : decode cX0_hasLane 18 = .ok (.goto 4, 3) := by decide +kernel
theorem dX0_hasLane_21 : decode cX0_hasLane 21 = .ok (.iconst 0, 1) := by decide +kernel
theorem dX0_hasLane_22 : decode cX0_hasLane 22 = .ok (.ireturn, 1) := by decide +kernel
theorem dX0_addLane_0 : decode cX0_addLane 0 = .ok (.aload_n 0, 1) := by decide +kernel
theorem dX0_addLane_1 : decode cX0_addLane 1 = .ok (.getfield 25, 3) := by decide +kernel
theorem dX0_addLane_4 : decode cX0_addLane 4 = .ok (.iconst 3, 1) := by decide +kernel
theorem dX0_addLane_5 : decode cX0_addLane 5 = .ok (.if_icmp .lt 5, 3) := by decide +kernel
theorem dX0_addLane_8 : decode cX0_addLane 8 = .ok (.iconst 0, 1) := by decide +kernel
theorem dX0_addLane_9 : decode cX0_addLane 9 = .ok (.ireturn, 1) := by decide +kernel
theorem dX0_addLane_10 : decode cX0_addLane 10 = .ok (.aload_n 0, 1) := by decide +kernel
theorem dX0_addLane_11 : decode cX0_addLane 11 = .ok (.getfield 11, 3) := by decide +kernel
theorem dX0_addLane_14 : decode cX0_addLane 14 = .ok (.aload_n 0, 1) := by decide +kernel
theorem dX0_addLane_15 : decode cX0_addLane 15 = .ok (.getfield 25, 3) := by decide +kernel
theorem dX0_addLane_18 : decode cX0_addLane 18 = .ok (.aaload, 1) := by decide +kernel
theorem dX0_addLane_19 : decode cX0_addLane 19 = .ok (.invokevirtual 42, 3) := by decide +kernel
theorem dX0_addLane_22 : decode cX0_addLane 22 = .ok (.aload_n 0, 1) := by decide +kernel
theorem dX0_addLane_23 : decode cX0_addLane 23 = .ok (.dup, 1) := by decide +kernel
theorem dX0_addLane_24 : decode cX0_addLane 24 = .ok (.getfield 25, 3) := by decide +kernel
theorem dX0_addLane_27 : decode cX0_addLane 27 = .ok (.iconst 1, 1) := by decide +kernel
theorem dX0_addLane_28 : decode cX0_addLane 28 = .ok (.iadd, 1) := by decide +kernel
theorem dX0_addLane_29 : decode cX0_addLane 29 = .ok (.putfield 25, 3) := by decide +kernel
theorem dX0_addLane_32 : decode cX0_addLane 32 = .ok (.iconst 1, 1) := by decide +kernel
theorem dX0_addLane_33 : decode cX0_addLane 33 = .ok (.ireturn, 1) := by decide +kernel
theorem dX0_addVehicle_0 : decode cX0_addVehicle 0 = .ok (.aload_n 0, 1) := by decide +kernel
theorem dX0_addVehicle_1 : decode cX0_addVehicle 1 = .ok (.iload_n 1, 1) := by decide +kernel
theorem dX0_addVehicle_2 : decode cX0_addVehicle 2 = .ok (.invokevirtual 43, 3) := by decide +kernel
theorem dX0_addVehicle_5 : decode cX0_addVehicle 5 = .ok (.ifCond .eq 14, 3) := by decide +kernel
theorem dX0_addVehicle_8 : decode cX0_addVehicle 8 = .ok (.iload_n 2, 1) := by decide +kernel
theorem dX0_addVehicle_9 : decode cX0_addVehicle 9 = .ok (.iconst 2, 1) := by decide +kernel
theorem dX0_addVehicle_10 : decode cX0_addVehicle 10 = .ok (.if_icmp .lt 9, 3) := by decide +kernel
theorem dX0_addVehicle_13 : decode cX0_addVehicle 13 = .ok (.iload_n 2, 1) := by decide +kernel
theorem dX0_addVehicle_14 : decode cX0_addVehicle 14 = .ok (.bipush 12, 2) := by decide +kernel
theorem dX0_addVehicle_16 : decode cX0_addVehicle 16 = .ok (.if_icmp .le 5, 3) := by decide +kernel
theorem dX0_addVehicle_19 : decode cX0_addVehicle 19 = .ok (.iconst 0, 1) := by decide +kernel
theorem dX0_addVehicle_20 : decode cX0_addVehicle 20 = .ok (.ireturn, 1) := by decide +kernel
theorem dX0_addVehicle_21 : decode cX0_addVehicle 21 = .ok (.aload_n 0, 1) := by decide +kernel
theorem dX0_addVehicle_22 : decode cX0_addVehicle 22 = .ok (.getfield 11, 3) := by decide +kernel
theorem dX0_addVehicle_25 : decode cX0_addVehicle 25 = .ok (.iload_n 1, 1) := by decide +kernel
theorem dX0_addVehicle_26 : decode cX0_addVehicle 26 = .ok (.aaload, 1) := by decide +kernel
theorem dX0_addVehicle_27 : decode cX0_addVehicle 27 = .ok (.iload_n 2, 1) := by decide +kernel
theorem dX0_addVehicle_28 : decode cX0_addVehicle 28 = .ok (.iload_n 3, 1) := by decide +kernel
theorem dX0_addVehicle_29 : decode cX0_addVehicle 29 = .ok (.iload 4, 2) := by decide +kernel
theorem dX0_addVehicle_31 : decode cX0_addVehicle 31 = .ok (.invokevirtual 47, 3) := by decide +kernel
theorem dX0_addVehicle_34 : decode cX0_addVehicle 34 = .ok (.ireturn, 1) := by decide +kernel
theorem dX0_changeLoop_0 : decode cX0_changeLoop 0 = .ok (.aload_n 0, 1) := by decide +kernel
theorem dX0_changeLoop_1 : decode cX0_changeLoop 1 = .ok (.iload_n 1, 1) := by decide +kernel
theorem dX0_changeLoop_2 : decode cX0_changeLoop 2 = .ok (.invokevirtual 43, 3) := by decide +kernel
theorem dX0_changeLoop_5 : decode cX0_changeLoop 5 = .ok (.ifCond .ne 5, 3) := by decide +kernel
theorem dX0_changeLoop_8 : decode cX0_changeLoop 8 = .ok (.iconst 0, 1) := by decide +kernel
theorem dX0_changeLoop_9 : decode cX0_changeLoop 9 = .ok (.ireturn, 1) := by decide +kernel
theorem dX0_changeLoop_10 : decode cX0_changeLoop 10 = .ok (.aload_n 0, 1) := by decide +kernel
theorem dX0_changeLoop_11 : decode cX0_changeLoop 11 = .ok (.getfield 11, 3) := by decide +kernel
theorem dX0_changeLoop_14 : decode cX0_changeLoop 14 = .ok (.iload_n 1, 1) := by decide +kernel
theorem dX0_changeLoop_15 : decode cX0_changeLoop 15 = .ok (.aaload, 1) := by decide +kernel
theorem dX0_changeLoop_16 : decode cX0_changeLoop 16 = .ok (.iload_n 2, 1) := by decide +kernel
theorem dX0_changeLoop_17 : decode cX0_changeLoop 17 = .ok (.putfield 51, 3) := by decide +kernel
theorem dX0_changeLoop_20 : decode cX0_changeLoop 20 = .ok (.iconst 1, 1) := by decide +kernel
theorem dX0_changeLoop_21 : decode cX0_changeLoop 21 = .ok (.ireturn, 1) := by decide +kernel
theorem dX0_mendArm_0 : decode cX0_mendArm 0 = .ok (.aload_n 0, 1) := by decide +kernel
theorem dX0_mendArm_1 : decode cX0_mendArm 1 = .ok (.iload_n 1, 1) := by decide +kernel
theorem dX0_mendArm_2 : decode cX0_mendArm 2 = .ok (.invokevirtual 43, 3) := by decide +kernel
theorem dX0_mendArm_5 : decode cX0_mendArm 5 = .ok (.ifCond .eq 15, 3) := by decide +kernel
theorem dX0_mendArm_8 : decode cX0_mendArm 8 = .ok (.aload_n 0, 1) := by decide +kernel
theorem dX0_mendArm_9 : decode cX0_mendArm 9 = .ok (.getfield 11, 3) := by decide +kernel
theorem dX0_mendArm_12 : decode cX0_mendArm 12 = .ok (.iload_n 1, 1) := by decide +kernel
theorem dX0_mendArm_13 : decode cX0_mendArm 13 = .ok (.aaload, 1) := by decide +kernel
theorem dX0_mendArm_14 : decode cX0_mendArm 14 = .ok (.invokevirtual 55, 3) := by decide +kernel
theorem dX0_mendArm_17 : decode cX0_mendArm 17 = .ok (.ifCond .ne 5, 3) := by decide +kernel
theorem dX0_mendArm_20 : decode cX0_mendArm 20 = .ok (.iconst 0, 1) := by decide +kernel
theorem dX0_mendArm_21 : decode cX0_mendArm 21 = .ok (.ireturn, 1) := by decide +kernel
theorem dX0_mendArm_22 : decode cX0_mendArm 22 = .ok (.aload_n 0, 1) := by decide +kernel
theorem dX0_mendArm_23 : decode cX0_mendArm 23 = .ok (.getfield 11, 3) := by decide +kernel
theorem dX0_mendArm_26 : decode cX0_mendArm 26 = .ok (.iload_n 1, 1) := by decide +kernel
theorem dX0_mendArm_27 : decode cX0_mendArm 27 = .ok (.aaload, 1) := by decide +kernel
theorem dX0_mendArm_28 : decode cX0_mendArm 28 = .ok (.iconst 0, 1) := by decide +kernel
theorem dX0_mendArm_29 : decode cX0_mendArm 29 = .ok (.putfield 59, 3) := by decide +kernel
theorem dX0_mendArm_32 : decode cX0_mendArm 32 = .ok (.iconst 1, 1) := by decide +kernel
theorem dX0_mendArm_33 : decode cX0_mendArm 33 = .ok (.ireturn, 1) := by decide +kernel
theorem dX0_letTicksGo_0 : decode cX0_letTicksGo 0 = .ok (.iload_n 1, 1) := by decide +kernel
theorem dX0_letTicksGo_1 : decode cX0_letTicksGo 1 = .ok (.iconst 1, 1) := by decide +kernel
theorem dX0_letTicksGo_2 : decode cX0_letTicksGo 2 = .ok (.if_icmp .lt 9, 3) := by decide +kernel
theorem dX0_letTicksGo_5 : decode cX0_letTicksGo 5 = .ok (.iload_n 1, 1) := by decide +kernel
theorem dX0_letTicksGo_6 : decode cX0_letTicksGo 6 = .ok (.bipush 60, 2) := by decide +kernel
theorem dX0_letTicksGo_8 : decode cX0_letTicksGo 8 = .ok (.if_icmp .le 5, 3) := by decide +kernel
theorem dX0_letTicksGo_11 : decode cX0_letTicksGo 11 = .ok (.iconst 0, 1) := by decide +kernel
theorem dX0_letTicksGo_12 : decode cX0_letTicksGo 12 = .ok (.ireturn, 1) := by decide +kernel
theorem dX0_letTicksGo_13 : decode cX0_letTicksGo 13 = .ok (.iconst 0, 1) := by decide +kernel
theorem dX0_letTicksGo_14 : decode cX0_letTicksGo 14 = .ok (.istore_n 2, 1) := by decide +kernel
theorem dX0_letTicksGo_15 : decode cX0_letTicksGo 15 = .ok (.iload_n 2, 1) := by decide +kernel
theorem dX0_letTicksGo_16 : decode cX0_letTicksGo 16 = .ok (.iload_n 1, 1) := by decide +kernel
theorem dX0_letTicksGo_17 : decode cX0_letTicksGo 17 = .ok (.if_icmp .ge 48, 3) := by decide +kernel
theorem dX0_letTicksGo_20 : decode cX0_letTicksGo 20 = .ok (.aload_n 0, 1) := by decide +kernel
theorem dX0_letTicksGo_21 : decode cX0_letTicksGo 21 = .ok (.dup, 1) := by decide +kernel
theorem dX0_letTicksGo_22 : decode cX0_letTicksGo 22 = .ok (.getfield 29, 3) := by decide +kernel
theorem dX0_letTicksGo_25 : decode cX0_letTicksGo 25 = .ok (.iconst 1, 1) := by decide +kernel
theorem dX0_letTicksGo_26 : decode cX0_letTicksGo 26 = .ok (.iadd, 1) := by decide +kernel
theorem dX0_letTicksGo_27 : decode cX0_letTicksGo 27 = .ok (.putfield 29, 3) := by decide +kernel
theorem dX0_letTicksGo_30 : decode cX0_letTicksGo 30 = .ok (.iconst 0, 1) := by decide +kernel
theorem dX0_letTicksGo_31 : decode cX0_letTicksGo 31 = .ok (.istore_n 3, 1) := by decide +kernel
theorem dX0_letTicksGo_32 : decode cX0_letTicksGo 32 = .ok (.iload_n 3, 1) := by decide +kernel
theorem dX0_letTicksGo_33 : decode cX0_letTicksGo 33 = .ok (.aload_n 0, 1) := by decide +kernel
theorem dX0_letTicksGo_34 : decode cX0_letTicksGo 34 = .ok (.getfield 25, 3) := by decide +kernel
theorem dX0_letTicksGo_37 : decode cX0_letTicksGo 37 = .ok (.if_icmp .ge 22, 3) := by decide +kernel
theorem dX0_letTicksGo_40 : decode cX0_letTicksGo 40 = .ok (.aload_n 0, 1) := by decide +kernel
theorem dX0_letTicksGo_41 : decode cX0_letTicksGo 41 = .ok (.getfield 11, 3) := by decide +kernel
theorem dX0_letTicksGo_44 : decode cX0_letTicksGo 44 = .ok (.iload_n 3, 1) := by decide +kernel
theorem dX0_letTicksGo_45 : decode cX0_letTicksGo 45 = .ok (.aaload, 1) := by decide +kernel
theorem dX0_letTicksGo_46 : decode cX0_letTicksGo 46 = .ok (.aload_n 0, 1) := by decide +kernel
theorem dX0_letTicksGo_47 : decode cX0_letTicksGo 47 = .ok (.getfield 17, 3) := by decide +kernel
theorem dX0_letTicksGo_50 : decode cX0_letTicksGo 50 = .ok (.invokevirtual 62, 3) := by decide +kernel
theorem dX0_letTicksGo_53 : decode cX0_letTicksGo 53 = .ok (.iinc 3 1, 3) := by decide +kernel
theorem dX0_letTicksGo_56 : decode cX0_letTicksGo 56 = .ok (.goto (-24), 3) := by decide +kernel
theorem dX0_letTicksGo_59 : decode cX0_letTicksGo 59 = .ok (.iinc 2 1, 3) := by decide +kernel
theorem dX0_letTicksGo_62 : decode cX0_letTicksGo 62 = .ok (.goto (-47), 3) := by decide +kernel
theorem dX0_letTicksGo_65 : decode cX0_letTicksGo 65 = .ok (.iconst 1, 1) := by decide +kernel
theorem dX0_letTicksGo_66 : decode cX0_letTicksGo 66 = .ok (.ireturn, 1) := by decide +kernel
theorem dX0_changeSetting_0 : decode cX0_changeSetting 0 = .ok (.iload_n 1, 1) := by decide +kernel
theorem dX0_changeSetting_1 : decode cX0_changeSetting 1 = .ok (.iload_n 2, 1) := by decide +kernel
theorem dX0_changeSetting_2 : decode cX0_changeSetting 2 = .ok (.invokestatic 66, 3) := by decide +kernel
theorem dX0_changeSetting_5 : decode cX0_changeSetting 5 = .ok (.ifCond .ne 5, 3) := by decide +kernel
theorem dX0_changeSetting_8 : decode cX0_changeSetting 8 = .ok (.iconst 0, 1) := by decide +kernel
theorem dX0_changeSetting_9 : decode cX0_changeSetting 9 = .ok (.ireturn, 1) := by decide +kernel
theorem dX0_changeSetting_10 : decode cX0_changeSetting 10 = .ok (.aload_n 0, 1) := by decide +kernel
theorem dX0_changeSetting_11 : decode cX0_changeSetting 11 = .ok (.getfield 17, 3) := by decide +kernel
theorem dX0_changeSetting_14 : decode cX0_changeSetting 14 = .ok (.iload_n 1, 1) := by decide +kernel
theorem dX0_changeSetting_15 : decode cX0_changeSetting 15 = .ok (.iload_n 2, 1) := by decide +kernel
theorem dX0_changeSetting_16 : decode cX0_changeSetting 16 = .ok (.iastore, 1) := by decide +kernel
theorem dX0_changeSetting_17 : decode cX0_changeSetting 17 = .ok (.iconst 1, 1) := by decide +kernel
theorem dX0_changeSetting_18 : decode cX0_changeSetting 18 = .ok (.ireturn, 1) := by decide +kernel
theorem dX0_total_0 : decode cX0_total 0 = .ok (.iconst 0, 1) := by decide +kernel
theorem dX0_total_1 : decode cX0_total 1 = .ok (.istore_n 2, 1) := by decide +kernel
theorem dX0_total_2 : decode cX0_total 2 = .ok (.iconst 0, 1) := by decide +kernel
theorem dX0_total_3 : decode cX0_total 3 = .ok (.istore_n 3, 1) := by decide +kernel
theorem dX0_total_4 : decode cX0_total 4 = .ok (.iload_n 3, 1) := by decide +kernel
theorem dX0_total_5 : decode cX0_total 5 = .ok (.aload_n 0, 1) := by decide +kernel
theorem dX0_total_6 : decode cX0_total 6 = .ok (.getfield 25, 3) := by decide +kernel
theorem dX0_total_9 : decode cX0_total 9 = .ok (.if_icmp .ge 22, 3) := by decide +kernel
theorem dX0_total_12 : decode cX0_total 12 = .ok (.iload_n 2, 1) := by decide +kernel
theorem dX0_total_13 : decode cX0_total 13 = .ok (.aload_n 0, 1) := by decide +kernel
theorem dX0_total_14 : decode cX0_total 14 = .ok (.getfield 11, 3) := by decide +kernel
theorem dX0_total_17 : decode cX0_total 17 = .ok (.iload_n 3, 1) := by decide +kernel
theorem dX0_total_18 : decode cX0_total 18 = .ok (.aaload, 1) := by decide +kernel
theorem dX0_total_19 : decode cX0_total 19 = .ok (.iload_n 1, 1) := by decide +kernel
theorem dX0_total_20 : decode cX0_total 20 = .ok (.invokevirtual 70, 3) := by decide +kernel
theorem dX0_total_23 : decode cX0_total 23 = .ok (.iadd, 1) := by decide +kernel
theorem dX0_total_24 : decode cX0_total 24 = .ok (.istore_n 2, 1) := by decide +kernel
theorem dX0_total_25 : decode cX0_total 25 = .ok (.iinc 3 1, 3) := by decide +kernel
theorem dX0_total_28 : decode cX0_total 28 = .ok (.goto (-24), 3) := by decide +kernel
theorem dX0_total_31 : decode cX0_total 31 = .ok (.iload_n 2, 1) := by decide +kernel
theorem dX0_total_32 : decode cX0_total 32 = .ok (.ireturn, 1) := by decide +kernel
theorem dX0_armsUp_0 : decode cX0_armsUp 0 = .ok (.iconst 0, 1) := by decide +kernel
theorem dX0_armsUp_1 : decode cX0_armsUp 1 = .ok (.istore_n 1, 1) := by decide +kernel
theorem dX0_armsUp_2 : decode cX0_armsUp 2 = .ok (.iconst 0, 1) := by decide +kernel
theorem dX0_armsUp_3 : decode cX0_armsUp 3 = .ok (.istore_n 2, 1) := by decide +kernel
theorem dX0_armsUp_4 : decode cX0_armsUp 4 = .ok (.iload_n 2, 1) := by decide +kernel
theorem dX0_armsUp_5 : decode cX0_armsUp 5 = .ok (.aload_n 0, 1) := by decide +kernel
theorem dX0_armsUp_6 : decode cX0_armsUp 6 = .ok (.getfield 25, 3) := by decide +kernel
theorem dX0_armsUp_9 : decode cX0_armsUp 9 = .ok (.if_icmp .ge 25, 3) := by decide +kernel
theorem dX0_armsUp_12 : decode cX0_armsUp 12 = .ok (.aload_n 0, 1) := by decide +kernel
theorem dX0_armsUp_13 : decode cX0_armsUp 13 = .ok (.getfield 11, 3) := by decide +kernel
theorem dX0_armsUp_16 : decode cX0_armsUp 16 = .ok (.iload_n 2, 1) := by decide +kernel
theorem dX0_armsUp_17 : decode cX0_armsUp 17 = .ok (.aaload, 1) := by decide +kernel
theorem dX0_armsUp_18 : decode cX0_armsUp 18 = .ok (.getfield 74, 3) := by decide +kernel
theorem dX0_armsUp_21 : decode cX0_armsUp 21 = .ok (.iconst 4, 1) := by decide +kernel
theorem dX0_armsUp_22 : decode cX0_armsUp 22 = .ok (.if_icmp .ne 6, 3) := by decide +kernel
theorem dX0_armsUp_25 : decode cX0_armsUp 25 = .ok (.iinc 1 1, 3) := by decide +kernel
theorem dX0_armsUp_28 : decode cX0_armsUp 28 = .ok (.iinc 2 1, 3) := by decide +kernel
theorem dX0_armsUp_31 : decode cX0_armsUp 31 = .ok (.goto (-27), 3) := by decide +kernel
theorem dX0_armsUp_34 : decode cX0_armsUp 34 = .ok (.iload_n 1, 1) := by decide +kernel
theorem dX0_armsUp_35 : decode cX0_armsUp 35 = .ok (.ireturn, 1) := by decide +kernel
theorem dX1_init_0 : decode cX1_init 0 = .ok (.aload_n 0, 1) := by decide +kernel
theorem dX1_init_1 : decode cX1_init 1 = .ok (.invokespecial 3, 3) := by decide +kernel
theorem dX1_init_4 : decode cX1_init 4 = .ok (.aload_n 0, 1) := by decide +kernel
theorem dX1_init_5 : decode cX1_init 5 = .ok (.bipush 6, 2) := by decide +kernel
theorem dX1_init_7 : decode cX1_init 7 = .ok (.newarray .int, 2) := by decide +kernel
theorem dX1_init_9 : decode cX1_init 9 = .ok (.putfield 9, 3) := by decide +kernel
theorem dX1_init_12 : decode cX1_init 12 = .ok (.aload_n 0, 1) := by decide +kernel
theorem dX1_init_13 : decode cX1_init 13 = .ok (.bipush 6, 2) := by decide +kernel
theorem dX1_init_15 : decode cX1_init 15 = .ok (.newarray .int, 2) := by decide +kernel
theorem dX1_init_17 : decode cX1_init 17 = .ok (.putfield 15, 3) := by decide +kernel
theorem dX1_init_20 : decode cX1_init 20 = .ok (.aload_n 0, 1) := by decide +kernel
theorem dX1_init_21 : decode cX1_init 21 = .ok (.bipush 6, 2) := by decide +kernel
theorem dX1_init_23 : decode cX1_init 23 = .ok (.newarray .boolean, 2) := by decide +kernel
theorem dX1_init_25 : decode cX1_init 25 = .ok (.putfield 18, 3) := by decide +kernel
theorem dX1_init_28 : decode cX1_init 28 = .ok (.aload_n 0, 1) := by decide +kernel
theorem dX1_init_29 : decode cX1_init 29 = .ok (.bipush 6, 2) := by decide +kernel
theorem dX1_init_31 : decode cX1_init 31 = .ok (.newarray .boolean, 2) := by decide +kernel
theorem dX1_init_33 : decode cX1_init 33 = .ok (.putfield 22, 3) := by decide +kernel
theorem dX1_init_36 : decode cX1_init 36 = .ok (.aload_n 0, 1) := by decide +kernel
theorem dX1_init_37 : decode cX1_init 37 = .ok (.bipush 6, 2) := by decide +kernel
theorem dX1_init_39 : decode cX1_init 39 = .ok (.newarray .boolean, 2) := by decide +kernel
theorem dX1_init_41 : decode cX1_init 41 = .ok (.putfield 25, 3) := by decide +kernel
theorem dX1_init_44 : decode cX1_init 44 = .ok (.aload_n 0, 1) := by decide +kernel
theorem dX1_init_45 : decode cX1_init 45 = .ok (.invokevirtual 28, 3) := by decide +kernel
theorem dX1_init_48 : decode cX1_init 48 = .ok (.return_, 1) := by decide +kernel
theorem dX1_clear_0 : decode cX1_clear 0 = .ok (.aload_n 0, 1) := by decide +kernel
theorem dX1_clear_1 : decode cX1_clear 1 = .ok (.iconst 0, 1) := by decide +kernel
theorem dX1_clear_2 : decode cX1_clear 2 = .ok (.putfield 31, 3) := by decide +kernel
theorem dX1_clear_5 : decode cX1_clear 5 = .ok (.aload_n 0, 1) := by decide +kernel
theorem dX1_clear_6 : decode cX1_clear 6 = .ok (.iconst 0, 1) := by decide +kernel
theorem dX1_clear_7 : decode cX1_clear 7 = .ok (.putfield 35, 3) := by decide +kernel
theorem dX1_clear_10 : decode cX1_clear 10 = .ok (.aload_n 0, 1) := by decide +kernel
theorem dX1_clear_11 : decode cX1_clear 11 = .ok (.iconst 0, 1) := by decide +kernel
theorem dX1_clear_12 : decode cX1_clear 12 = .ok (.putfield 38, 3) := by decide +kernel
theorem dX1_clear_15 : decode cX1_clear 15 = .ok (.aload_n 0, 1) := by decide +kernel
theorem dX1_clear_16 : decode cX1_clear 16 = .ok (.bipush 48, 2) := by decide +kernel
theorem dX1_clear_18 : decode cX1_clear 18 = .ok (.putfield 41, 3) := by decide +kernel
theorem dX1_clear_21 : decode cX1_clear 21 = .ok (.aload_n 0, 1) := by decide +kernel
theorem dX1_clear_22 : decode cX1_clear 22 = .ok (.iconst 0, 1) := by decide +kernel
theorem dX1_clear_23 : decode cX1_clear 23 = .ok (.putfield 44, 3) := by decide +kernel
theorem dX1_clear_26 : decode cX1_clear 26 = .ok (.aload_n 0, 1) := by decide +kernel
theorem dX1_clear_27 : decode cX1_clear 27 = .ok (.iconst 0, 1) := by decide +kernel
theorem dX1_clear_28 : decode cX1_clear 28 = .ok (.putfield 47, 3) := by decide +kernel
theorem dX1_clear_31 : decode cX1_clear 31 = .ok (.aload_n 0, 1) := by decide +kernel
theorem dX1_clear_32 : decode cX1_clear 32 = .ok (.iconst 0, 1) := by decide +kernel
theorem dX1_clear_33 : decode cX1_clear 33 = .ok (.putfield 51, 3) := by decide +kernel
theorem dX1_clear_36 : decode cX1_clear 36 = .ok (.aload_n 0, 1) := by decide +kernel
theorem dX1_clear_37 : decode cX1_clear 37 = .ok (.iconst 0, 1) := by decide +kernel
theorem dX1_clear_38 : decode cX1_clear 38 = .ok (.putfield 54, 3) := by decide +kernel
theorem dX1_clear_41 : decode cX1_clear 41 = .ok (.aload_n 0, 1) := by decide +kernel
theorem dX1_clear_42 : decode cX1_clear 42 = .ok (.iconst 0, 1) := by decide +kernel
theorem dX1_clear_43 : decode cX1_clear 43 = .ok (.putfield 57, 3) := by decide +kernel
theorem dX1_clear_46 : decode cX1_clear 46 = .ok (.aload_n 0, 1) := by decide +kernel
theorem dX1_clear_47 : decode cX1_clear 47 = .ok (.iconst 0, 1) := by decide +kernel
theorem dX1_clear_48 : decode cX1_clear 48 = .ok (.putfield 60, 3) := by decide +kernel
theorem dX1_clear_51 : decode cX1_clear 51 = .ok (.aload_n 0, 1) := by decide +kernel
theorem dX1_clear_52 : decode cX1_clear 52 = .ok (.iconst 0, 1) := by decide +kernel
theorem dX1_clear_53 : decode cX1_clear 53 = .ok (.putfield 63, 3) := by decide +kernel
theorem dX1_clear_56 : decode cX1_clear 56 = .ok (.aload_n 0, 1) := by decide +kernel
theorem dX1_clear_57 : decode cX1_clear 57 = .ok (.iconst 0, 1) := by decide +kernel
theorem dX1_clear_58 : decode cX1_clear 58 = .ok (.putfield 66, 3) := by decide +kernel
theorem dX1_clear_61 : decode cX1_clear 61 = .ok (.return_, 1) := by decide +kernel
theorem dX1_copyFrom_0 : decode cX1_copyFrom 0 = .ok (.iconst 0, 1) := by decide +kernel
theorem dX1_copyFrom_1 : decode cX1_copyFrom 1 = .ok (.istore_n 2, 1) := by decide +kernel
theorem dX1_copyFrom_2 : decode cX1_copyFrom 2 = .ok (.iload_n 2, 1) := by decide +kernel
theorem dX1_copyFrom_3 : decode cX1_copyFrom 3 = .ok (.bipush 6, 2) := by decide +kernel
theorem dX1_copyFrom_5 : decode cX1_copyFrom 5 = .ok (.if_icmp .ge 16, 3) := by decide +kernel
theorem dX1_copyFrom_8 : decode cX1_copyFrom 8 = .ok (.aload_n 0, 1) := by decide +kernel
theorem dX1_copyFrom_9 : decode cX1_copyFrom 9 = .ok (.aload_n 1, 1) := by decide +kernel
theorem dX1_copyFrom_10 : decode cX1_copyFrom 10 = .ok (.iload_n 2, 1) := by decide +kernel
theorem dX1_copyFrom_11 : decode cX1_copyFrom 11 = .ok (.iload_n 2, 1) := by decide +kernel
theorem dX1_copyFrom_12 : decode cX1_copyFrom 12 = .ok (.invokevirtual 69, 3) := by decide +kernel
theorem dX1_copyFrom_15 : decode cX1_copyFrom 15 = .ok (.iinc 2 1, 3) := by decide +kernel
theorem dX1_copyFrom_18 : decode cX1_copyFrom 18 = .ok (.goto (-16), 3) := by decide +kernel
theorem dX1_copyFrom_21 : decode cX1_copyFrom 21 = .ok (.aload_n 0, 1) := by decide +kernel
theorem dX1_copyFrom_22 : decode cX1_copyFrom 22 = .ok (.aload_n 1, 1) := by decide +kernel
theorem dX1_copyFrom_23 : decode cX1_copyFrom 23 = .ok (.getfield 31, 3) := by decide +kernel
theorem dX1_copyFrom_26 : decode cX1_copyFrom 26 = .ok (.putfield 31, 3) := by decide +kernel
theorem dX1_copyFrom_29 : decode cX1_copyFrom 29 = .ok (.aload_n 0, 1) := by decide +kernel
theorem dX1_copyFrom_30 : decode cX1_copyFrom 30 = .ok (.aload_n 1, 1) := by decide +kernel
theorem dX1_copyFrom_31 : decode cX1_copyFrom 31 = .ok (.getfield 35, 3) := by decide +kernel
theorem dX1_copyFrom_34 : decode cX1_copyFrom 34 = .ok (.putfield 35, 3) := by decide +kernel
theorem dX1_copyFrom_37 : decode cX1_copyFrom 37 = .ok (.aload_n 0, 1) := by decide +kernel
theorem dX1_copyFrom_38 : decode cX1_copyFrom 38 = .ok (.aload_n 1, 1) := by decide +kernel
theorem dX1_copyFrom_39 : decode cX1_copyFrom 39 = .ok (.getfield 38, 3) := by decide +kernel
theorem dX1_copyFrom_42 : decode cX1_copyFrom 42 = .ok (.putfield 38, 3) := by decide +kernel
theorem dX1_copyFrom_45 : decode cX1_copyFrom 45 = .ok (.aload_n 0, 1) := by decide +kernel
theorem dX1_copyFrom_46 : decode cX1_copyFrom 46 = .ok (.aload_n 1, 1) := by decide +kernel
theorem dX1_copyFrom_47 : decode cX1_copyFrom 47 = .ok (.getfield 41, 3) := by decide +kernel
theorem dX1_copyFrom_50 : decode cX1_copyFrom 50 = .ok (.putfield 41, 3) := by decide +kernel
theorem dX1_copyFrom_53 : decode cX1_copyFrom 53 = .ok (.aload_n 0, 1) := by decide +kernel
theorem dX1_copyFrom_54 : decode cX1_copyFrom 54 = .ok (.aload_n 1, 1) := by decide +kernel
theorem dX1_copyFrom_55 : decode cX1_copyFrom 55 = .ok (.getfield 44, 3) := by decide +kernel
theorem dX1_copyFrom_58 : decode cX1_copyFrom 58 = .ok (.putfield 44, 3) := by decide +kernel
theorem dX1_copyFrom_61 : decode cX1_copyFrom 61 = .ok (.aload_n 0, 1) := by decide +kernel
theorem dX1_copyFrom_62 : decode cX1_copyFrom 62 = .ok (.aload_n 1, 1) := by decide +kernel
theorem dX1_copyFrom_63 : decode cX1_copyFrom 63 = .ok (.getfield 47, 3) := by decide +kernel
theorem dX1_copyFrom_66 : decode cX1_copyFrom 66 = .ok (.putfield 47, 3) := by decide +kernel
theorem dX1_copyFrom_69 : decode cX1_copyFrom 69 = .ok (.aload_n 0, 1) := by decide +kernel
theorem dX1_copyFrom_70 : decode cX1_copyFrom 70 = .ok (.aload_n 1, 1) := by decide +kernel
theorem dX1_copyFrom_71 : decode cX1_copyFrom 71 = .ok (.getfield 51, 3) := by decide +kernel
theorem dX1_copyFrom_74 : decode cX1_copyFrom 74 = .ok (.putfield 51, 3) := by decide +kernel
theorem dX1_copyFrom_77 : decode cX1_copyFrom 77 = .ok (.aload_n 0, 1) := by decide +kernel
theorem dX1_copyFrom_78 : decode cX1_copyFrom 78 = .ok (.aload_n 1, 1) := by decide +kernel
theorem dX1_copyFrom_79 : decode cX1_copyFrom 79 = .ok (.getfield 54, 3) := by decide +kernel
theorem dX1_copyFrom_82 : decode cX1_copyFrom 82 = .ok (.putfield 54, 3) := by decide +kernel
theorem dX1_copyFrom_85 : decode cX1_copyFrom 85 = .ok (.aload_n 0, 1) := by decide +kernel
theorem dX1_copyFrom_86 : decode cX1_copyFrom 86 = .ok (.aload_n 1, 1) := by decide +kernel
theorem dX1_copyFrom_87 : decode cX1_copyFrom 87 = .ok (.getfield 57, 3) := by decide +kernel
theorem dX1_copyFrom_90 : decode cX1_copyFrom 90 = .ok (.putfield 57, 3) := by decide +kernel
theorem dX1_copyFrom_93 : decode cX1_copyFrom 93 = .ok (.aload_n 0, 1) := by decide +kernel
theorem dX1_copyFrom_94 : decode cX1_copyFrom 94 = .ok (.aload_n 1, 1) := by decide +kernel
theorem dX1_copyFrom_95 : decode cX1_copyFrom 95 = .ok (.getfield 60, 3) := by decide +kernel
theorem dX1_copyFrom_98 : decode cX1_copyFrom 98 = .ok (.putfield 60, 3) := by decide +kernel
theorem dX1_copyFrom_101 : decode cX1_copyFrom 101 = .ok (.aload_n 0, 1) := by decide +kernel
theorem dX1_copyFrom_102 : decode cX1_copyFrom 102 = .ok (.aload_n 1, 1) := by decide +kernel
theorem dX1_copyFrom_103 : decode cX1_copyFrom 103 = .ok (.getfield 63, 3) := by decide +kernel
theorem dX1_copyFrom_106 : decode cX1_copyFrom 106 = .ok (.putfield 63, 3) := by decide +kernel
theorem dX1_copyFrom_109 : decode cX1_copyFrom 109 = .ok (.aload_n 0, 1) := by decide +kernel
theorem dX1_copyFrom_110 : decode cX1_copyFrom 110 = .ok (.aload_n 1, 1) := by decide +kernel
theorem dX1_copyFrom_111 : decode cX1_copyFrom 111 = .ok (.getfield 66, 3) := by decide +kernel
theorem dX1_copyFrom_114 : decode cX1_copyFrom 114 = .ok (.putfield 66, 3) := by decide +kernel
theorem dX1_copyFrom_117 : decode cX1_copyFrom 117 = .ok (.return_, 1) := by decide +kernel
theorem dX1_copyVehicle_0 : decode cX1_copyVehicle 0 = .ok (.aload_n 0, 1) := by decide +kernel
theorem dX1_copyVehicle_1 : decode cX1_copyVehicle 1 = .ok (.getfield 9, 3) := by decide +kernel
theorem dX1_copyVehicle_4 : decode cX1_copyVehicle 4 = .ok (.iload_n 3, 1) := by decide +kernel
theorem dX1_copyVehicle_5 : decode cX1_copyVehicle 5 = .ok (.aload_n 1, 1) := by decide +kernel
theorem dX1_copyVehicle_6 : decode cX1_copyVehicle 6 = .ok (.getfield 9, 3) := by decide +kernel
theorem dX1_copyVehicle_9 : decode cX1_copyVehicle 9 = .ok (.iload_n 2, 1) := by decide +kernel
theorem dX1_copyVehicle_10 : decode cX1_copyVehicle 10 = .ok (.iaload, 1) := by decide +kernel
theorem dX1_copyVehicle_11 : decode cX1_copyVehicle 11 = .ok (.iastore, 1) := by decide +kernel
theorem dX1_copyVehicle_12 : decode cX1_copyVehicle 12 = .ok (.aload_n 0, 1) := by decide +kernel
theorem dX1_copyVehicle_13 : decode cX1_copyVehicle 13 = .ok (.getfield 15, 3) := by decide +kernel
theorem dX1_copyVehicle_16 : decode cX1_copyVehicle 16 = .ok (.iload_n 3, 1) := by decide +kernel
theorem dX1_copyVehicle_17 : decode cX1_copyVehicle 17 = .ok (.aload_n 1, 1) := by decide +kernel
theorem dX1_copyVehicle_18 : decode cX1_copyVehicle 18 = .ok (.getfield 15, 3) := by decide +kernel
theorem dX1_copyVehicle_21 : decode cX1_copyVehicle 21 = .ok (.iload_n 2, 1) := by decide +kernel
theorem dX1_copyVehicle_22 : decode cX1_copyVehicle 22 = .ok (.iaload, 1) := by decide +kernel
theorem dX1_copyVehicle_23 : decode cX1_copyVehicle 23 = .ok (.iastore, 1) := by decide +kernel
theorem dX1_copyVehicle_24 : decode cX1_copyVehicle 24 = .ok (.aload_n 0, 1) := by decide +kernel
theorem dX1_copyVehicle_25 : decode cX1_copyVehicle 25 = .ok (.getfield 18, 3) := by decide +kernel
theorem dX1_copyVehicle_28 : decode cX1_copyVehicle 28 = .ok (.iload_n 3, 1) := by decide +kernel
theorem dX1_copyVehicle_29 : decode cX1_copyVehicle 29 = .ok (.aload_n 1, 1) := by decide +kernel
theorem dX1_copyVehicle_30 : decode cX1_copyVehicle 30 = .ok (.getfield 18, 3) := by decide +kernel
theorem dX1_copyVehicle_33 : decode cX1_copyVehicle 33 = .ok (.iload_n 2, 1) := by decide +kernel
theorem dX1_copyVehicle_34 : decode cX1_copyVehicle 34 = .ok (.baload, 1) := by decide +kernel
theorem dX1_copyVehicle_35 : decode cX1_copyVehicle 35 = .ok (.bastore, 1) := by decide +kernel
theorem dX1_copyVehicle_36 : decode cX1_copyVehicle 36 = .ok (.aload_n 0, 1) := by decide +kernel
theorem dX1_copyVehicle_37 : decode cX1_copyVehicle 37 = .ok (.getfield 22, 3) := by decide +kernel
theorem dX1_copyVehicle_40 : decode cX1_copyVehicle 40 = .ok (.iload_n 3, 1) := by decide +kernel
theorem dX1_copyVehicle_41 : decode cX1_copyVehicle 41 = .ok (.aload_n 1, 1) := by decide +kernel
theorem dX1_copyVehicle_42 : decode cX1_copyVehicle 42 = .ok (.getfield 22, 3) := by decide +kernel
theorem dX1_copyVehicle_45 : decode cX1_copyVehicle 45 = .ok (.iload_n 2, 1) := by decide +kernel
theorem dX1_copyVehicle_46 : decode cX1_copyVehicle 46 = .ok (.baload, 1) := by decide +kernel
theorem dX1_copyVehicle_47 : decode cX1_copyVehicle 47 = .ok (.bastore, 1) := by decide +kernel
theorem dX1_copyVehicle_48 : decode cX1_copyVehicle 48 = .ok (.aload_n 0, 1) := by decide +kernel
theorem dX1_copyVehicle_49 : decode cX1_copyVehicle 49 = .ok (.getfield 25, 3) := by decide +kernel
theorem dX1_copyVehicle_52 : decode cX1_copyVehicle 52 = .ok (.iload_n 3, 1) := by decide +kernel
theorem dX1_copyVehicle_53 : decode cX1_copyVehicle 53 = .ok (.aload_n 1, 1) := by decide +kernel
theorem dX1_copyVehicle_54 : decode cX1_copyVehicle 54 = .ok (.getfield 25, 3) := by decide +kernel
theorem dX1_copyVehicle_57 : decode cX1_copyVehicle 57 = .ok (.iload_n 2, 1) := by decide +kernel
theorem dX1_copyVehicle_58 : decode cX1_copyVehicle 58 = .ok (.baload, 1) := by decide +kernel
theorem dX1_copyVehicle_59 : decode cX1_copyVehicle 59 = .ok (.bastore, 1) := by decide +kernel
theorem dX1_copyVehicle_60 : decode cX1_copyVehicle 60 = .ok (.return_, 1) := by decide +kernel
theorem dX1_hasVehicle_0 : decode cX1_hasVehicle 0 = .ok (.iload_n 1, 1) := by decide +kernel
theorem dX1_hasVehicle_1 : decode cX1_hasVehicle 1 = .ok (.ifCond .lt 21, 3) := by decide +kernel
theorem dX1_hasVehicle_4 : decode cX1_hasVehicle 4 = .ok (.iload_n 1, 1) := by decide +kernel
theorem dX1_hasVehicle_5 : decode cX1_hasVehicle 5 = .ok (.aload_n 0, 1) := by decide +kernel
theorem dX1_hasVehicle_6 : decode cX1_hasVehicle 6 = .ok (.getfield 31, 3) := by decide +kernel
theorem dX1_hasVehicle_9 : decode cX1_hasVehicle 9 = .ok (.if_icmp .ge 13, 3) := by decide +kernel
theorem dX1_hasVehicle_12 : decode cX1_hasVehicle 12 = .ok (.iload_n 1, 1) := by decide +kernel
theorem dX1_hasVehicle_13 : decode cX1_hasVehicle 13 = .ok (.bipush 6, 2) := by decide +kernel
theorem dX1_hasVehicle_15 : decode cX1_hasVehicle 15 = .ok (.if_icmp .ge 7, 3) := by decide +kernel
theorem dX1_hasVehicle_18 : decode cX1_hasVehicle 18 = .ok (.iconst 1, 1) := by decide +kernel
theorem dX1_hasVehicle_19 : decode cX1_hasVehicle 19 = .ok (.goto 4, 3) := by decide +kernel
theorem dX1_hasVehicle_22 : decode cX1_hasVehicle 22 = .ok (.iconst 0, 1) := by decide +kernel
theorem dX1_hasVehicle_23 : decode cX1_hasVehicle 23 = .ok (.ireturn, 1) := by decide +kernel
theorem dX1_lastCell_0 : decode cX1_lastCell 0 = .ok (.aload_n 0, 1) := by decide +kernel
theorem dX1_lastCell_1 : decode cX1_lastCell 1 = .ok (.getfield 15, 3) := by decide +kernel
theorem dX1_lastCell_4 : decode cX1_lastCell 4 = .ok (.iload_n 1, 1) := by decide +kernel
theorem dX1_lastCell_5 : decode cX1_lastCell 5 = .ok (.iaload, 1) := by decide +kernel
theorem dX1_lastCell_6 : decode cX1_lastCell 6 = .ok (.aload_n 0, 1) := by decide +kernel
theorem dX1_lastCell_7 : decode cX1_lastCell 7 = .ok (.getfield 9, 3) := by decide +kernel
theorem dX1_lastCell_10 : decode cX1_lastCell 10 = .ok (.iload_n 1, 1) := by decide +kernel
theorem dX1_lastCell_11 : decode cX1_lastCell 11 = .ok (.iaload, 1) := by decide +kernel
theorem dX1_lastCell_12 : decode cX1_lastCell 12 = .ok (.isub, 1) := by decide +kernel
theorem dX1_lastCell_13 : decode cX1_lastCell 13 = .ok (.iconst 1, 1) := by decide +kernel
theorem dX1_lastCell_14 : decode cX1_lastCell 14 = .ok (.iadd, 1) := by decide +kernel
theorem dX1_lastCell_15 : decode cX1_lastCell 15 = .ok (.ireturn, 1) := by decide +kernel
theorem dX1_addVehicle_0 : decode cX1_addVehicle 0 = .ok (.aload_n 0, 1) := by decide +kernel
theorem dX1_addVehicle_1 : decode cX1_addVehicle 1 = .ok (.getfield 31, 3) := by decide +kernel
theorem dX1_addVehicle_4 : decode cX1_addVehicle 4 = .ok (.istore 4, 2) := by decide +kernel
theorem dX1_addVehicle_6 : decode cX1_addVehicle 6 = .ok (.iload 4, 2) := by decide +kernel
theorem dX1_addVehicle_8 : decode cX1_addVehicle 8 = .ok (.ifCond .lt 10, 3) := by decide +kernel
theorem dX1_addVehicle_11 : decode cX1_addVehicle 11 = .ok (.iload 4, 2) := by decide +kernel
theorem dX1_addVehicle_13 : decode cX1_addVehicle 13 = .ok (.bipush 6, 2) := by decide +kernel
theorem dX1_addVehicle_15 : decode cX1_addVehicle 15 = .ok (.if_icmp .lt 5, 3) := by decide +kernel
theorem dX1_addVehicle_18 : decode cX1_addVehicle 18 = .ok (.iconst 0, 1) := by decide +kernel
theorem dX1_addVehicle_19 : decode cX1_addVehicle 19 = .ok (.ireturn, 1) := by decide +kernel
theorem dX1_addVehicle_20 : decode cX1_addVehicle 20 = .ok (.aload_n 0, 1) := by decide +kernel
theorem dX1_addVehicle_21 : decode cX1_addVehicle 21 = .ok (.getfield 9, 3) := by decide +kernel
theorem dX1_addVehicle_24 : decode cX1_addVehicle 24 = .ok (.iload 4, 2) := by decide +kernel
theorem dX1_addVehicle_26 : decode cX1_addVehicle 26 = .ok (.iload_n 1, 1) := by decide +kernel
theorem dX1_addVehicle_27 : decode cX1_addVehicle 27 = .ok (.iastore, 1) := by decide +kernel
theorem dX1_addVehicle_28 : decode cX1_addVehicle 28 = .ok (.aload_n 0, 1) := by decide +kernel
theorem dX1_addVehicle_29 : decode cX1_addVehicle 29 = .ok (.getfield 15, 3) := by decide +kernel
theorem dX1_addVehicle_32 : decode cX1_addVehicle 32 = .ok (.iload 4, 2) := by decide +kernel
theorem dX1_addVehicle_34 : decode cX1_addVehicle 34 = .ok (.iload 4, 2) := by decide +kernel
theorem dX1_addVehicle_36 : decode cX1_addVehicle 36 = .ok (.ifCond .ne 7, 3) := by decide +kernel
theorem dX1_addVehicle_39 : decode cX1_addVehicle 39 = .ok (.iconst (-1), 1) := by decide +kernel
theorem dX1_addVehicle_40 : decode cX1_addVehicle 40 = .ok (.goto 17, 3) := by decide +kernel
theorem dX1_addVehicle_43 : decode cX1_addVehicle 43 = .ok (.iconst (-1), 1) := by decide +kernel
theorem dX1_addVehicle_44 : decode cX1_addVehicle 44 = .ok (.aload_n 0, 1) := by decide +kernel
theorem dX1_addVehicle_45 : decode cX1_addVehicle 45 = .ok (.iload 4, 2) := by decide +kernel
theorem dX1_addVehicle_47 : decode cX1_addVehicle 47 = .ok (.iconst 1, 1) := by decide +kernel
theorem dX1_addVehicle_48 : decode cX1_addVehicle 48 = .ok (.isub, 1) := by decide +kernel
theorem dX1_addVehicle_49 : decode cX1_addVehicle 49 = .ok (.invokevirtual 73, 3) := by decide +kernel
theorem dX1_addVehicle_52 : decode cX1_addVehicle 52 = .ok (.iconst 2, 1) := by decide +kernel
theorem dX1_addVehicle_53 : decode cX1_addVehicle 53 = .ok (.isub, 1) := by decide +kernel
theorem dX1_addVehicle_54 : decode cX1_addVehicle 54 = .ok (.invokestatic 77, 3) := by decide +kernel
theorem dX1_addVehicle_57 : decode cX1_addVehicle 57 = .ok (.iastore, 1) := by decide +kernel
theorem dX1_addVehicle_58 : decode cX1_addVehicle 58 = .ok (.aload_n 0, 1) := by decide +kernel
theorem dX1_addVehicle_59 : decode cX1_addVehicle 59 = .ok (.getfield 18, 3) := by decide +kernel
theorem dX1_addVehicle_62 : decode cX1_addVehicle 62 = .ok (.iload 4, 2) := by decide +kernel
theorem dX1_addVehicle_64 : decode cX1_addVehicle 64 = .ok (.iload_n 2, 1) := by decide +kernel
theorem dX1_addVehicle_65 : decode cX1_addVehicle 65 = .ok (.bastore, 1) := by decide +kernel
theorem dX1_addVehicle_66 : decode cX1_addVehicle 66 = .ok (.aload_n 0, 1) := by decide +kernel
theorem dX1_addVehicle_67 : decode cX1_addVehicle 67 = .ok (.getfield 22, 3) := by decide +kernel
theorem dX1_addVehicle_70 : decode cX1_addVehicle 70 = .ok (.iload 4, 2) := by decide +kernel
theorem dX1_addVehicle_72 : decode cX1_addVehicle 72 = .ok (.iload_n 3, 1) := by decide +kernel
theorem dX1_addVehicle_73 : decode cX1_addVehicle 73 = .ok (.bastore, 1) := by decide +kernel
theorem dX1_addVehicle_74 : decode cX1_addVehicle 74 = .ok (.aload_n 0, 1) := by decide +kernel
theorem dX1_addVehicle_75 : decode cX1_addVehicle 75 = .ok (.getfield 25, 3) := by decide +kernel
theorem dX1_addVehicle_78 : decode cX1_addVehicle 78 = .ok (.iload 4, 2) := by decide +kernel
theorem dX1_addVehicle_80 : decode cX1_addVehicle 80 = .ok (.iconst 0, 1) := by decide +kernel
theorem dX1_addVehicle_81 : decode cX1_addVehicle 81 = .ok (.bastore, 1) := by decide +kernel
theorem dX1_addVehicle_82 : decode cX1_addVehicle 82 = .ok (.aload_n 0, 1) := by decide +kernel
theorem dX1_addVehicle_83 : decode cX1_addVehicle 83 = .ok (.dup, 1) := by decide +kernel
theorem dX1_addVehicle_84 : decode cX1_addVehicle 84 = .ok (.getfield 31, 3) := by decide +kernel
theorem dX1_addVehicle_87 : decode cX1_addVehicle 87 = .ok (.iconst 1, 1) := by decide +kernel
theorem dX1_addVehicle_88 : decode cX1_addVehicle 88 = .ok (.iadd, 1) := by decide +kernel
theorem dX1_addVehicle_89 : decode cX1_addVehicle 89 = .ok (.putfield 31, 3) := by decide +kernel
theorem dX1_addVehicle_92 : decode cX1_addVehicle 92 = .ok (.iconst 1, 1) := by decide +kernel
theorem dX1_addVehicle_93 : decode cX1_addVehicle 93 = .ok (.ireturn, 1) := by decide +kernel
theorem dX1_tick_0 : decode cX1_tick 0 = .ok (.aload_n 0, 1) := by decide +kernel
theorem dX1_tick_1 : decode cX1_tick 1 = .ok (.invokevirtual 83, 3) := by decide +kernel
theorem dX1_tick_4 : decode cX1_tick 4 = .ok (.aload_n 0, 1) := by decide +kernel
theorem dX1_tick_5 : decode cX1_tick 5 = .ok (.aload_n 1, 1) := by decide +kernel
theorem dX1_tick_6 : decode cX1_tick 6 = .ok (.iconst 0, 1) := by decide +kernel
theorem dX1_tick_7 : decode cX1_tick 7 = .ok (.iaload, 1) := by decide +kernel
theorem dX1_tick_8 : decode cX1_tick 8 = .ok (.aload_n 1, 1) := by decide +kernel
theorem dX1_tick_9 : decode cX1_tick 9 = .ok (.iconst 1, 1) := by decide +kernel
theorem dX1_tick_10 : decode cX1_tick 10 = .ok (.iaload, 1) := by decide +kernel
theorem dX1_tick_11 : decode cX1_tick 11 = .ok (.aload_n 1, 1) := by decide +kernel
theorem dX1_tick_12 : decode cX1_tick 12 = .ok (.iconst 2, 1) := by decide +kernel
theorem dX1_tick_13 : decode cX1_tick 13 = .ok (.iaload, 1) := by decide +kernel
theorem dX1_tick_14 : decode cX1_tick 14 = .ok (.invokevirtual 86, 3) := by decide +kernel
theorem dX1_tick_17 : decode cX1_tick 17 = .ok (.aload_n 0, 1) := by decide +kernel
theorem dX1_tick_18 : decode cX1_tick 18 = .ok (.getfield 51, 3) := by decide +kernel
theorem dX1_tick_21 : decode cX1_tick 21 = .ok (.ifCond .ne 19, 3) := by decide +kernel
theorem dX1_tick_24 : decode cX1_tick 24 = .ok (.aload_n 0, 1) := by decide +kernel
theorem dX1_tick_25 : decode cX1_tick 25 = .ok (.aload_n 0, 1) := by decide +kernel
theorem dX1_tick_26 : decode cX1_tick 26 = .ok (.invokevirtual 90, 3) := by decide +kernel
theorem dX1_tick_29 : decode cX1_tick 29 = .ok (.ifCond .eq 7, 3) := by decide +kernel
theorem dX1_tick_32 : decode cX1_tick 32 = .ok (.iconst 1, 1) := by decide +kernel
theorem dX1_tick_33 : decode cX1_tick 33 = .ok (.goto 4, 3) := by decide +kernel
theorem dX1_tick_36 : decode cX1_tick 36 = .ok (.iconst 0, 1) := by decide +kernel
theorem dX1_tick_37 : decode cX1_tick 37 = .ok (.invokevirtual 94, 3) := by decide +kernel
theorem dX1_tick_40 : decode cX1_tick 40 = .ok (.aload_n 0, 1) := by decide +kernel
theorem dX1_tick_41 : decode cX1_tick 41 = .ok (.invokevirtual 98, 3) := by decide +kernel
theorem dX1_tick_44 : decode cX1_tick 44 = .ok (.aload_n 0, 1) := by decide +kernel
theorem dX1_tick_45 : decode cX1_tick 45 = .ok (.invokevirtual 101, 3) := by decide +kernel
theorem dX1_tick_48 : decode cX1_tick 48 = .ok (.return_, 1) := by decide +kernel
theorem dX1_moveVehicles_0 : decode cX1_moveVehicles 0 = .ok (.iconst 0, 1) := by decide +kernel
theorem dX1_moveVehicles_1 : decode cX1_moveVehicles 1 = .ok (.istore_n 1, 1) := by decide +kernel
theorem dX1_moveVehicles_2 : decode cX1_moveVehicles 2 = .ok (.iload_n 1, 1) := by decide +kernel
theorem dX1_moveVehicles_3 : decode cX1_moveVehicles 3 = .ok (.aload_n 0, 1) := by decide +kernel
theorem dX1_moveVehicles_4 : decode cX1_moveVehicles 4 = .ok (.getfield 31, 3) := by decide +kernel
theorem dX1_moveVehicles_7 : decode cX1_moveVehicles 7 = .ok (.if_icmp .ge 27, 3) := by decide +kernel
theorem dX1_moveVehicles_10 : decode cX1_moveVehicles 10 = .ok (.aload_n 0, 1) := by decide +kernel
theorem dX1_moveVehicles_11 : decode cX1_moveVehicles 11 = .ok (.iload_n 1, 1) := by decide +kernel
theorem dX1_moveVehicles_12 : decode cX1_moveVehicles 12 = .ok (.invokevirtual 104, 3) := by decide +kernel
theorem dX1_moveVehicles_15 : decode cX1_moveVehicles 15 = .ok (.ifCond .eq 13, 3) := by decide +kernel
theorem dX1_moveVehicles_18 : decode cX1_moveVehicles 18 = .ok (.aload_n 0, 1) := by decide +kernel
theorem dX1_moveVehicles_19 : decode cX1_moveVehicles 19 = .ok (.getfield 15, 3) := by decide +kernel
theorem dX1_moveVehicles_22 : decode cX1_moveVehicles 22 = .ok (.iload_n 1, 1) := by decide +kernel
theorem dX1_moveVehicles_23 : decode cX1_moveVehicles 23 = .ok (.dup2, 1) := by decide +kernel
theorem dX1_moveVehicles_24 : decode cX1_moveVehicles 24 = .ok (.iaload, 1) := by decide +kernel
theorem dX1_moveVehicles_25 : decode cX1_moveVehicles 25 = .ok (.iconst 1, 1) := by decide +kernel
theorem dX1_moveVehicles_26 : decode cX1_moveVehicles 26 = .ok (.iadd, 1) := by decide +kernel
theorem dX1_moveVehicles_27 : decode cX1_moveVehicles 27 = .ok (.iastore, 1) := by decide +kernel
theorem dX1_moveVehicles_28 : decode cX1_moveVehicles 28 = .ok (.iinc 1 1, 3) := by decide +kernel
theorem dX1_moveVehicles_31 : decode cX1_moveVehicles 31 = .ok (.goto (-29), 3) := by decide +kernel
theorem dX1_moveVehicles_34 : decode cX1_moveVehicles 34 = .ok (.aload_n 0, 1) := by decide +kernel
theorem dX1_moveVehicles_35 : decode cX1_moveVehicles 35 = .ok (.getfield 31, 3) := by decide +kernel
theorem dX1_moveVehicles_38 : decode cX1_moveVehicles 38 = .ok (.ifCond .le 27, 3) := by decide +kernel
theorem dX1_moveVehicles_41 : decode cX1_moveVehicles 41 = .ok (.aload_n 0, 1) := by decide +kernel
theorem dX1_moveVehicles_42 : decode cX1_moveVehicles 42 = .ok (.iconst 0, 1) := by decide +kernel
theorem dX1_moveVehicles_43 : decode cX1_moveVehicles 43 = .ok (.invokevirtual 73, 3) := by decide +kernel
theorem dX1_moveVehicles_46 : decode cX1_moveVehicles 46 = .ok (.bipush 39, 2) := by decide +kernel
theorem dX1_moveVehicles_48 : decode cX1_moveVehicles 48 = .ok (.if_icmp .le 17, 3) := by decide +kernel
theorem dX1_moveVehicles_51 : decode cX1_moveVehicles 51 = .ok (.aload_n 0, 1) := by decide +kernel
theorem dX1_moveVehicles_52 : decode cX1_moveVehicles 52 = .ok (.invokevirtual 108, 3) := by decide +kernel
theorem dX1_moveVehicles_55 : decode cX1_moveVehicles 55 = .ok (.aload_n 0, 1) := by decide +kernel
theorem dX1_moveVehicles_56 : decode cX1_moveVehicles 56 = .ok (.dup, 1) := by decide +kernel
theorem dX1_moveVehicles_57 : decode cX1_moveVehicles 57 = .ok (.getfield 54, 3) := by decide +kernel
theorem dX1_moveVehicles_60 : decode cX1_moveVehicles 60 = .ok (.iconst 1, 1) := by decide +kernel
theorem dX1_moveVehicles_61 : decode cX1_moveVehicles 61 = .ok (.iadd, 1) := by decide +kernel
theorem dX1_moveVehicles_62 : decode cX1_moveVehicles 62 = .ok (.putfield 54, 3) := by decide +kernel
theorem dX1_moveVehicles_65 : decode cX1_moveVehicles 65 = .ok (.return_, 1) := by decide +kernel
theorem dX1_canMove_0 : decode cX1_canMove 0 = .ok (.aload_n 0, 1) := by decide +kernel
theorem dX1_canMove_1 : decode cX1_canMove 1 = .ok (.getfield 15, 3) := by decide +kernel
theorem dX1_canMove_4 : decode cX1_canMove 4 = .ok (.iload_n 1, 1) := by decide +kernel
theorem dX1_canMove_5 : decode cX1_canMove 5 = .ok (.iaload, 1) := by decide +kernel
theorem dX1_canMove_6 : decode cX1_canMove 6 = .ok (.iconst 1, 1) := by decide +kernel
theorem dX1_canMove_7 : decode cX1_canMove 7 = .ok (.iadd, 1) := by decide +kernel
theorem dX1_canMove_8 : decode cX1_canMove 8 = .ok (.istore_n 2, 1) := by decide +kernel
theorem dX1_canMove_9 : decode cX1_canMove 9 = .ok (.iload_n 1, 1) := by decide +kernel
theorem dX1_canMove_10 : decode cX1_canMove 10 = .ok (.ifCond .le 18, 3) := by decide +kernel
theorem dX1_canMove_13 : decode cX1_canMove 13 = .ok (.aload_n 0, 1) := by decide +kernel
theorem dX1_canMove_14 : decode cX1_canMove 14 = .ok (.iload_n 1, 1) := by decide +kernel
theorem dX1_canMove_15 : decode cX1_canMove 15 = .ok (.iconst 1, 1) := by decide +kernel
theorem dX1_canMove_16 : decode cX1_canMove 16 = .ok (.isub, 1) := by decide +kernel
theorem dX1_canMove_17 : decode cX1_canMove 17 = .ok (.invokevirtual 73, 3) := by decide +kernel
theorem dX1_canMove_20 : decode cX1_canMove 20 = .ok (.iload_n 2, 1) := by decide +kernel
theorem dX1_canMove_21 : decode cX1_canMove 21 = .ok (.iconst 1, 1) := by decide +kernel
theorem dX1_canMove_22 : decode cX1_canMove 22 = .ok (.iadd, 1) := by decide +kernel
theorem dX1_canMove_23 : decode cX1_canMove 23 = .ok (.if_icmp .ge 5, 3) := by decide +kernel
theorem dX1_canMove_26 : decode cX1_canMove 26 = .ok (.iconst 0, 1) := by decide +kernel
theorem dX1_canMove_27 : decode cX1_canMove 27 = .ok (.ireturn, 1) := by decide +kernel
theorem dX1_canMove_28 : decode cX1_canMove 28 = .ok (.aload_n 0, 1) := by decide +kernel
theorem dX1_canMove_29 : decode cX1_canMove 29 = .ok (.getfield 15, 3) := by decide +kernel
theorem dX1_canMove_32 : decode cX1_canMove 32 = .ok (.iload_n 1, 1) := by decide +kernel
theorem dX1_canMove_33 : decode cX1_canMove 33 = .ok (.iaload, 1) := by decide +kernel
theorem dX1_canMove_34 : decode cX1_canMove 34 = .ok (.bipush 19, 2) := by decide +kernel
theorem dX1_canMove_36 : decode cX1_canMove 36 = .ok (.if_icmp .ne 29, 3) := by decide +kernel
theorem dX1_canMove_39 : decode cX1_canMove 39 = .ok (.aload_n 0, 1) := by decide +kernel
theorem dX1_canMove_40 : decode cX1_canMove 40 = .ok (.getfield 35, 3) := by decide +kernel
theorem dX1_canMove_43 : decode cX1_canMove 43 = .ok (.iconst 4, 1) := by decide +kernel
theorem dX1_canMove_44 : decode cX1_canMove 44 = .ok (.if_icmp .ne 25, 3) := by decide +kernel
theorem dX1_canMove_47 : decode cX1_canMove 47 = .ok (.aload_n 0, 1) := by decide +kernel
theorem dX1_canMove_48 : decode cX1_canMove 48 = .ok (.getfield 25, 3) := by decide +kernel
theorem dX1_canMove_51 : decode cX1_canMove 51 = .ok (.iload_n 1, 1) := by decide +kernel
theorem dX1_canMove_52 : decode cX1_canMove 52 = .ok (.baload, 1) := by decide +kernel
theorem dX1_canMove_53 : decode cX1_canMove 53 = .ok (.ifCond .ne 12, 3) := by decide +kernel
theorem dX1_canMove_56 : decode cX1_canMove 56 = .ok (.aload_n 0, 1) := by decide +kernel
theorem dX1_canMove_57 : decode cX1_canMove 57 = .ok (.getfield 22, 3) := by decide +kernel
theorem dX1_canMove_60 : decode cX1_canMove 60 = .ok (.iload_n 1, 1) := by decide +kernel
theorem dX1_canMove_61 : decode cX1_canMove 61 = .ok (.baload, 1) := by decide +kernel
theorem dX1_canMove_62 : decode cX1_canMove 62 = .ok (.ifCond .eq 7, 3) := by decide +kernel
theorem dX1_canMove_65 : decode cX1_canMove 65 = .ok (.iconst 1, 1) := by decide +kernel
theorem dX1_canMove_66 : decode cX1_canMove 66 = .ok (.goto 4, 3) := by decide +kernel
theorem dX1_canMove_69 : decode cX1_canMove 69 = .ok (.iconst 0, 1) := by decide +kernel
theorem dX1_canMove_70 : decode cX1_canMove 70 = .ok (.ireturn, 1) := by decide +kernel
theorem dX1_removeFirst_0 : decode cX1_removeFirst 0 = .ok (.iconst 1, 1) := by decide +kernel
theorem dX1_removeFirst_1 : decode cX1_removeFirst 1 = .ok (.istore_n 1, 1) := by decide +kernel
theorem dX1_removeFirst_2 : decode cX1_removeFirst 2 = .ok (.iload_n 1, 1) := by decide +kernel
theorem dX1_removeFirst_3 : decode cX1_removeFirst 3 = .ok (.aload_n 0, 1) := by decide +kernel
theorem dX1_removeFirst_4 : decode cX1_removeFirst 4 = .ok (.getfield 31, 3) := by decide +kernel
theorem dX1_removeFirst_7 : decode cX1_removeFirst 7 = .ok (.if_icmp .ge 18, 3) := by decide +kernel
theorem dX1_removeFirst_10 : decode cX1_removeFirst 10 = .ok (.aload_n 0, 1) := by decide +kernel
theorem dX1_removeFirst_11 : decode cX1_removeFirst 11 = .ok (.aload_n 0, 1) := by decide +kernel
theorem dX1_removeFirst_12 : decode cX1_removeFirst 12 = .ok (.iload_n 1, 1) := by decide +kernel
theorem dX1_removeFirst_13 : decode cX1_removeFirst 13 = .ok (.iload_n 1, 1) := by decide +kernel
theorem dX1_removeFirst_14 : decode cX1_removeFirst 14 = .ok (.iconst 1, 1) := by decide +kernel
theorem dX1_removeFirst_15 : decode cX1_removeFirst 15 = .ok (.isub, 1) := by decide +kernel
theorem dX1_removeFirst_16 : decode cX1_removeFirst 16 = .ok (.invokevirtual 69, 3) := by decide +kernel
theorem dX1_removeFirst_19 : decode cX1_removeFirst 19 = .ok (.iinc 1 1, 3) := by decide +kernel
theorem dX1_removeFirst_22 : decode cX1_removeFirst 22 = .ok (.goto (-20), 3) := by decide +kernel
theorem dX1_removeFirst_25 : decode cX1_removeFirst 25 = .ok (.aload_n 0, 1) := by decide +kernel
theorem dX1_removeFirst_26 : decode cX1_removeFirst 26 = .ok (.dup, 1) := by decide +kernel
theorem dX1_removeFirst_27 : decode cX1_removeFirst 27 = .ok (.getfield 31, 3) := by decide +kernel
theorem dX1_removeFirst_30 : decode cX1_removeFirst 30 = .ok (.iconst 1, 1) := by decide +kernel
theorem dX1_removeFirst_31 : decode cX1_removeFirst 31 = .ok (.isub, 1) := by decide +kernel
theorem dX1_removeFirst_32 : decode cX1_removeFirst 32 = .ok (.putfield 31, 3) := by decide +kernel
theorem dX1_removeFirst_35 : decode cX1_removeFirst 35 = .ok (.return_, 1) := by decide +kernel
theorem dX1_checkTicket_0 : decode cX1_checkTicket 0 = .ok (.aload_n 0, 1) := by decide +kernel
theorem dX1_checkTicket_1 : decode cX1_checkTicket 1 = .ok (.invokevirtual 111, 3) := by decide +kernel
theorem dX1_checkTicket_4 : decode cX1_checkTicket 4 = .ok (.istore 4, 2) := by decide +kernel
theorem dX1_checkTicket_6 : decode cX1_checkTicket 6 = .ok (.iload 4, 2) := by decide +kernel
theorem dX1_checkTicket_8 : decode cX1_checkTicket 8 = .ok (.iconst (-1), 1) := by decide +kernel
theorem dX1_checkTicket_9 : decode cX1_checkTicket 9 = .ok (.if_icmp .ne 9, 3) := by decide +kernel
theorem dX1_checkTicket_12 : decode cX1_checkTicket 12 = .ok (.aload_n 0, 1) := by decide +kernel
theorem dX1_checkTicket_13 : decode cX1_checkTicket 13 = .ok (.iconst 0, 1) := by decide +kernel
theorem dX1_checkTicket_14 : decode cX1_checkTicket 14 = .ok (.putfield 44, 3) := by decide +kernel
theorem dX1_checkTicket_17 : decode cX1_checkTicket 17 = .ok (.return_, 1) := by decide +kernel
theorem dX1_checkTicket_18 : decode cX1_checkTicket 18 = .ok (.aload_n 0, 1) := by decide +kernel
theorem dX1_checkTicket_19 : decode cX1_checkTicket 19 = .ok (.dup, 1) := by decide +kernel
theorem dX1_checkTicket_20 : decode cX1_checkTicket 20 = .ok (.getfield 44, 3) := by decide +kernel
theorem dX1_checkTicket_23 : decode cX1_checkTicket 23 = .ok (.iconst 1, 1) := by decide +kernel
theorem dX1_checkTicket_24 : decode cX1_checkTicket 24 = .ok (.iadd, 1) := by decide +kernel
theorem dX1_checkTicket_25 : decode cX1_checkTicket 25 = .ok (.putfield 44, 3) := by decide +kernel
theorem dX1_checkTicket_28 : decode cX1_checkTicket 28 = .ok (.aload_n 0, 1) := by decide +kernel
theorem dX1_checkTicket_29 : decode cX1_checkTicket 29 = .ok (.getfield 44, 3) := by decide +kernel
theorem dX1_checkTicket_32 : decode cX1_checkTicket 32 = .ok (.aload_n 0, 1) := by decide +kernel
theorem dX1_checkTicket_33 : decode cX1_checkTicket 33 = .ok (.getfield 18, 3) := by decide +kernel
theorem dX1_checkTicket_36 : decode cX1_checkTicket 36 = .ok (.iload 4, 2) := by decide +kernel
theorem dX1_checkTicket_38 : decode cX1_checkTicket 38 = .ok (.baload, 1) := by decide +kernel
theorem dX1_checkTicket_39 : decode cX1_checkTicket 39 = .ok (.ifCond .eq 7, 3) := by decide +kernel
theorem dX1_checkTicket_42 : decode cX1_checkTicket 42 = .ok (.iload_n 2, 1) := by decide +kernel
theorem dX1_checkTicket_43 : decode cX1_checkTicket 43 = .ok (.goto 4, 3) := by decide +kernel
theorem dX1_checkTicket_46 : decode cX1_checkTicket 46 = .ok (.iload_n 1, 1) := by decide +kernel
theorem dX1_checkTicket_47 : decode cX1_checkTicket 47 = .ok (.if_icmp .lt 49, 3) := by decide +kernel
theorem dX1_checkTicket_50 : decode cX1_checkTicket 50 = .ok (.aload_n 0, 1) := by decide +kernel
theorem dX1_checkTicket_51 : decode cX1_checkTicket 51 = .ok (.getfield 25, 3) := by decide +kernel
theorem dX1_checkTicket_54 : decode cX1_checkTicket 54 = .ok (.iload 4, 2) := by decide +kernel
theorem dX1_checkTicket_56 : decode cX1_checkTicket 56 = .ok (.iconst 1, 1) := by decide +kernel
theorem dX1_checkTicket_57 : decode cX1_checkTicket 57 = .ok (.bastore, 1) := by decide +kernel
theorem dX1_checkTicket_58 : decode cX1_checkTicket 58 = .ok (.aload_n 0, 1) := by decide +kernel
theorem dX1_checkTicket_59 : decode cX1_checkTicket 59 = .ok (.aload_n 0, 1) := by decide +kernel
theorem dX1_checkTicket_60 : decode cX1_checkTicket 60 = .ok (.getfield 41, 3) := by decide +kernel
theorem dX1_checkTicket_63 : decode cX1_checkTicket 63 = .ok (.bipush 8, 2) := by decide +kernel
theorem dX1_checkTicket_65 : decode cX1_checkTicket 65 = .ok (.idiv, 1) := by decide +kernel
theorem dX1_checkTicket_66 : decode cX1_checkTicket 66 = .ok (.iload_n 3, 1) := by decide +kernel
theorem dX1_checkTicket_67 : decode cX1_checkTicket 67 = .ok (.iadd, 1) := by decide +kernel
theorem dX1_checkTicket_68 : decode cX1_checkTicket 68 = .ok (.putfield 38, 3) := by decide +kernel
theorem dX1_checkTicket_71 : decode cX1_checkTicket 71 = .ok (.aload_n 0, 1) := by decide +kernel
theorem dX1_checkTicket_72 : decode cX1_checkTicket 72 = .ok (.iconst 0, 1) := by decide +kernel
theorem dX1_checkTicket_73 : decode cX1_checkTicket 73 = .ok (.putfield 44, 3) := by decide +kernel
theorem dX1_checkTicket_76 : decode cX1_checkTicket 76 = .ok (.aload_n 0, 1) := by decide +kernel
theorem dX1_checkTicket_77 : decode cX1_checkTicket 77 = .ok (.getfield 18, 3) := by decide +kernel
theorem dX1_checkTicket_80 : decode cX1_checkTicket 80 = .ok (.iload 4, 2) := by decide +kernel
theorem dX1_checkTicket_82 : decode cX1_checkTicket 82 = .ok (.baload, 1) := by decide +kernel
theorem dX1_checkTicket_83 : decode cX1_checkTicket 83 = .ok (.ifCond .eq 13, 3) := by decide +kernel
theorem dX1_checkTicket_86 : decode cX1_checkTicket 86 = .ok (.aload_n 0, 1) := by decide +kernel
theorem dX1_checkTicket_87 : decode cX1_checkTicket 87 = .ok (.dup, 1) := by decide +kernel
theorem dX1_checkTicket_88 : decode cX1_checkTicket 88 = .ok (.getfield 66, 3) := by decide +kernel
theorem dX1_checkTicket_91 : decode cX1_checkTicket 91 = .ok (.iconst 1, 1) := by decide +kernel
theorem dX1_checkTicket_92 : decode cX1_checkTicket 92 = .ok (.iadd, 1) := by decide +kernel
theorem dX1_checkTicket_93 : decode cX1_checkTicket 93 = .ok (.putfield 66, 3) := by decide +kernel
theorem dX1_checkTicket_96 : decode cX1_checkTicket 96 = .ok (.return_, 1) := by decide +kernel
theorem dX1_vehicleInCheck_0 : decode cX1_vehicleInCheck 0 = .ok (.iconst 0, 1) := by decide +kernel
theorem dX1_vehicleInCheck_1 : decode cX1_vehicleInCheck 1 = .ok (.istore_n 1, 1) := by decide +kernel
theorem dX1_vehicleInCheck_2 : decode cX1_vehicleInCheck 2 = .ok (.iload_n 1, 1) := by decide +kernel
theorem dX1_vehicleInCheck_3 : decode cX1_vehicleInCheck 3 = .ok (.aload_n 0, 1) := by decide +kernel
theorem dX1_vehicleInCheck_4 : decode cX1_vehicleInCheck 4 = .ok (.getfield 31, 3) := by decide +kernel
theorem dX1_vehicleInCheck_7 : decode cX1_vehicleInCheck 7 = .ok (.if_icmp .ge 31, 3) := by decide +kernel
theorem dX1_vehicleInCheck_10 : decode cX1_vehicleInCheck 10 = .ok (.aload_n 0, 1) := by decide +kernel
theorem dX1_vehicleInCheck_11 : decode cX1_vehicleInCheck 11 = .ok (.getfield 15, 3) := by decide +kernel
theorem dX1_vehicleInCheck_14 : decode cX1_vehicleInCheck 14 = .ok (.iload_n 1, 1) := by decide +kernel
theorem dX1_vehicleInCheck_15 : decode cX1_vehicleInCheck 15 = .ok (.iaload, 1) := by decide +kernel
theorem dX1_vehicleInCheck_16 : decode cX1_vehicleInCheck 16 = .ok (.bipush 19, 2) := by decide +kernel
theorem dX1_vehicleInCheck_18 : decode cX1_vehicleInCheck 18 = .ok (.if_icmp .ne 14, 3) := by decide +kernel
theorem dX1_vehicleInCheck_21 : decode cX1_vehicleInCheck 21 = .ok (.aload_n 0, 1) := by decide +kernel
theorem dX1_vehicleInCheck_22 : decode cX1_vehicleInCheck 22 = .ok (.getfield 25, 3) := by decide +kernel
theorem dX1_vehicleInCheck_25 : decode cX1_vehicleInCheck 25 = .ok (.iload_n 1, 1) := by decide +kernel
theorem dX1_vehicleInCheck_26 : decode cX1_vehicleInCheck 26 = .ok (.baload, 1) := by decide +kernel
theorem dX1_vehicleInCheck_27 : decode cX1_vehicleInCheck 27 = .ok (.ifCond .ne 5, 3) := by decide +kernel
theorem dX1_vehicleInCheck_30 : decode cX1_vehicleInCheck 30 = .ok (.iload_n 1, 1) := by decide +kernel
theorem dX1_vehicleInCheck_31 : decode cX1_vehicleInCheck 31 = .ok (.ireturn, 1) := by decide +kernel
theorem dX1_vehicleInCheck_32 : decode cX1_vehicleInCheck 32 = .ok (.iinc 1 1, 3) := by decide +kernel
theorem dX1_vehicleInCheck_35 : decode cX1_vehicleInCheck 35 = .ok (.goto (-33), 3) := by decide +kernel
theorem dX1_vehicleInCheck_38 : decode cX1_vehicleInCheck 38 = .ok (.iconst (-1), 1) := by decide +kernel
theorem dX1_vehicleInCheck_39 : decode cX1_vehicleInCheck 39 = .ok (.ireturn, 1) := by decide +kernel
theorem dX1_moveArm_0 : decode cX1_moveArm 0 = .ok (.aload_n 0, 1) := by decide +kernel
theorem dX1_moveArm_1 : decode cX1_moveArm 1 = .ok (.iload_n 1, 1) := by decide +kernel
theorem dX1_moveArm_2 : decode cX1_moveArm 2 = .ok (.ifCond .eq 16, 3) := by decide +kernel
theorem dX1_moveArm_5 : decode cX1_moveArm 5 = .ok (.iconst 4, 1) := by decide +kernel
theorem dX1_moveArm_6 : decode cX1_moveArm 6 = .ok (.aload_n 0, 1) := by decide +kernel
theorem dX1_moveArm_7 : decode cX1_moveArm 7 = .ok (.getfield 35, 3) := by decide +kernel
theorem dX1_moveArm_10 : decode cX1_moveArm 10 = .ok (.iconst 1, 1) := by decide +kernel
theorem dX1_moveArm_11 : decode cX1_moveArm 11 = .ok (.iadd, 1) := by decide +kernel
theorem dX1_moveArm_12 : decode cX1_moveArm 12 = .ok (.invokestatic 77, 3) := by decide +kernel
theorem dX1_moveArm_15 : decode cX1_moveArm 15 = .ok (.goto 13, 3) := by decide +kernel
theorem dX1_moveArm_18 : decode cX1_moveArm 18 = .ok (.iconst 0, 1) := by decide +kernel
theorem dX1_moveArm_19 : decode cX1_moveArm 19 = .ok (.aload_n 0, 1) := by decide +kernel
theorem dX1_moveArm_20 : decode cX1_moveArm 20 = .ok (.getfield 35, 3) := by decide +kernel
theorem dX1_moveArm_23 : decode cX1_moveArm 23 = .ok (.iconst 1, 1) := by decide +kernel
theorem dX1_moveArm_24 : decode cX1_moveArm 24 = .ok (.isub, 1) := by decide +kernel
theorem dX1_moveArm_25 : decode cX1_moveArm 25 = .ok (.invokestatic 114, 3) := by decide +kernel
theorem dX1_moveArm_28 : decode cX1_moveArm 28 = .ok (.putfield 35, 3) := by decide +kernel
theorem dX1_moveArm_31 : decode cX1_moveArm 31 = .ok (.aload_n 0, 1) := by decide +kernel
theorem dX1_moveArm_32 : decode cX1_moveArm 32 = .ok (.getfield 35, 3) := by decide +kernel
theorem dX1_moveArm_35 : decode cX1_moveArm 35 = .ok (.iconst 4, 1) := by decide +kernel
theorem dX1_moveArm_36 : decode cX1_moveArm 36 = .ok (.if_icmp .ne 17, 3) := by decide +kernel
theorem dX1_moveArm_39 : decode cX1_moveArm 39 = .ok (.aload_n 0, 1) := by decide +kernel
theorem dX1_moveArm_40 : decode cX1_moveArm 40 = .ok (.iconst 0, 1) := by decide +kernel
theorem dX1_moveArm_41 : decode cX1_moveArm 41 = .ok (.aload_n 0, 1) := by decide +kernel
theorem dX1_moveArm_42 : decode cX1_moveArm 42 = .ok (.getfield 38, 3) := by decide +kernel
theorem dX1_moveArm_45 : decode cX1_moveArm 45 = .ok (.iconst 1, 1) := by decide +kernel
theorem dX1_moveArm_46 : decode cX1_moveArm 46 = .ok (.isub, 1) := by decide +kernel
theorem dX1_moveArm_47 : decode cX1_moveArm 47 = .ok (.invokestatic 114, 3) := by decide +kernel
theorem dX1_moveArm_50 : decode cX1_moveArm 50 = .ok (.putfield 38, 3) := by decide +kernel
theorem dX1_moveArm_53 : decode cX1_moveArm 53 = .ok (.return_, 1) := by decide +kernel
theorem dX1_reason_0 : decode cX1_reason 0 = .ok (.aload_n 0, 1) := by decide +kernel
theorem dX1_reason_1 : decode cX1_reason 1 = .ok (.getfield 51, 3) := by decide +kernel
theorem dX1_reason_4 : decode cX1_reason 4 = .ok (.ifCond .eq 5, 3) := by decide +kernel
theorem dX1_reason_7 : decode cX1_reason 7 = .ok (.iconst 4, 1) := by decide +kernel
theorem dX1_reason_8 : decode cX1_reason 8 = .ok (.ireturn, 1) := by decide +kernel
theorem dX1_reason_9 : decode cX1_reason 9 = .ok (.aload_n 0, 1) := by decide +kernel
theorem dX1_reason_10 : decode cX1_reason 10 = .ok (.invokevirtual 117, 3) := by decide +kernel
theorem dX1_reason_13 : decode cX1_reason 13 = .ok (.ifCond .eq 5, 3) := by decide +kernel
theorem dX1_reason_16 : decode cX1_reason 16 = .ok (.iconst 1, 1) := by decide +kernel
theorem dX1_reason_17 : decode cX1_reason 17 = .ok (.ireturn, 1) := by decide +kernel
theorem dX1_reason_18 : decode cX1_reason 18 = .ok (.aload_n 0, 1) := by decide +kernel
theorem dX1_reason_19 : decode cX1_reason 19 = .ok (.getfield 47, 3) := by decide +kernel
theorem dX1_reason_22 : decode cX1_reason 22 = .ok (.ifCond .ne 12, 3) := by decide +kernel
theorem dX1_reason_25 : decode cX1_reason 25 = .ok (.aload_n 0, 1) := by decide +kernel
theorem dX1_reason_26 : decode cX1_reason 26 = .ok (.invokevirtual 121, 3) := by decide +kernel
theorem dX1_reason_29 : decode cX1_reason 29 = .ok (.ifCond .eq 5, 3) := by decide +kernel
theorem dX1_reason_32 : decode cX1_reason 32 = .ok (.iconst 2, 1) := by decide +kernel
theorem dX1_reason_33 : decode cX1_reason 33 = .ok (.ireturn, 1) := by decide +kernel
theorem dX1_reason_34 : decode cX1_reason 34 = .ok (.aload_n 0, 1) := by decide +kernel
theorem dX1_reason_35 : decode cX1_reason 35 = .ok (.getfield 38, 3) := by decide +kernel
theorem dX1_reason_38 : decode cX1_reason 38 = .ok (.ifCond .le 7, 3) := by decide +kernel
theorem dX1_reason_41 : decode cX1_reason 41 = .ok (.iconst 3, 1) := by decide +kernel
theorem dX1_reason_42 : decode cX1_reason 42 = .ok (.goto 4, 3) := by decide +kernel
theorem dX1_reason_45 : decode cX1_reason 45 = .ok (.iconst 0, 1) := by decide +kernel
theorem dX1_reason_46 : decode cX1_reason 46 = .ok (.ireturn, 1) := by decide +kernel
theorem dX1_letVehicleWaits_0 : decode cX1_letVehicleWaits 0 = .ok (.iconst 0, 1) := by decide +kernel
theorem dX1_letVehicleWaits_1 : decode cX1_letVehicleWaits 1 = .ok (.istore_n 1, 1) := by decide +kernel
theorem dX1_letVehicleWaits_2 : decode cX1_letVehicleWaits 2 = .ok (.iload_n 1, 1) := by decide +kernel
theorem dX1_letVehicleWaits_3 : decode cX1_letVehicleWaits 3 = .ok (.aload_n 0, 1) := by decide +kernel
theorem dX1_letVehicleWaits_4 : decode cX1_letVehicleWaits 4 = .ok (.getfield 31, 3) := by decide +kernel
theorem dX1_letVehicleWaits_7 : decode cX1_letVehicleWaits 7 = .ok (.if_icmp .ge 31, 3) := by decide +kernel
theorem dX1_letVehicleWaits_10 : decode cX1_letVehicleWaits 10 = .ok (.aload_n 0, 1) := by decide +kernel
theorem dX1_letVehicleWaits_11 : decode cX1_letVehicleWaits 11 = .ok (.getfield 25, 3) := by decide +kernel
theorem dX1_letVehicleWaits_14 : decode cX1_letVehicleWaits 14 = .ok (.iload_n 1, 1) := by decide +kernel
theorem dX1_letVehicleWaits_15 : decode cX1_letVehicleWaits 15 = .ok (.baload, 1) := by decide +kernel
theorem dX1_letVehicleWaits_16 : decode cX1_letVehicleWaits 16 = .ok (.ifCond .eq 16, 3) := by decide +kernel
theorem dX1_letVehicleWaits_19 : decode cX1_letVehicleWaits 19 = .ok (.aload_n 0, 1) := by decide +kernel
theorem dX1_letVehicleWaits_20 : decode cX1_letVehicleWaits 20 = .ok (.getfield 15, 3) := by decide +kernel
theorem dX1_letVehicleWaits_23 : decode cX1_letVehicleWaits 23 = .ok (.iload_n 1, 1) := by decide +kernel
theorem dX1_letVehicleWaits_24 : decode cX1_letVehicleWaits 24 = .ok (.iaload, 1) := by decide +kernel
theorem dX1_letVehicleWaits_25 : decode cX1_letVehicleWaits 25 = .ok (.bipush 19, 2) := by decide +kernel
theorem dX1_letVehicleWaits_27 : decode cX1_letVehicleWaits 27 = .ok (.if_icmp .gt 5, 3) := by decide +kernel
theorem dX1_letVehicleWaits_30 : decode cX1_letVehicleWaits 30 = .ok (.iconst 1, 1) := by decide +kernel
theorem dX1_letVehicleWaits_31 : decode cX1_letVehicleWaits 31 = .ok (.ireturn, 1) := by decide +kernel
theorem dX1_letVehicleWaits_32 : decode cX1_letVehicleWaits 32 = .ok (.iinc 1 1, 3) := by decide +kernel
theorem dX1_letVehicleWaits_35 : decode cX1_letVehicleWaits 35 = .ok (.goto (-33), 3) := by decide +kernel
theorem dX1_letVehicleWaits_38 : decode cX1_letVehicleWaits 38 = .ok (.iconst 0, 1) := by decide +kernel
theorem dX1_letVehicleWaits_39 : decode cX1_letVehicleWaits 39 = .ok (.ireturn, 1) := by decide +kernel
theorem dX1_isLoopCovered_0 : decode cX1_isLoopCovered 0 = .ok (.iconst 0, 1) := by decide +kernel
theorem dX1_isLoopCovered_1 : decode cX1_isLoopCovered 1 = .ok (.istore_n 1, 1) := by decide +kernel
theorem dX1_isLoopCovered_2 : decode cX1_isLoopCovered 2 = .ok (.iload_n 1, 1) := by decide +kernel
theorem dX1_isLoopCovered_3 : decode cX1_isLoopCovered 3 = .ok (.aload_n 0, 1) := by decide +kernel
theorem dX1_isLoopCovered_4 : decode cX1_isLoopCovered 4 = .ok (.getfield 31, 3) := by decide +kernel
theorem dX1_isLoopCovered_7 : decode cX1_isLoopCovered 7 = .ok (.if_icmp .ge 32, 3) := by decide +kernel
theorem dX1_isLoopCovered_10 : decode cX1_isLoopCovered 10 = .ok (.aload_n 0, 1) := by decide +kernel
theorem dX1_isLoopCovered_11 : decode cX1_isLoopCovered 11 = .ok (.getfield 15, 3) := by decide +kernel
theorem dX1_isLoopCovered_14 : decode cX1_isLoopCovered 14 = .ok (.iload_n 1, 1) := by decide +kernel
theorem dX1_isLoopCovered_15 : decode cX1_isLoopCovered 15 = .ok (.iaload, 1) := by decide +kernel
theorem dX1_isLoopCovered_16 : decode cX1_isLoopCovered 16 = .ok (.bipush 20, 2) := by decide +kernel
theorem dX1_isLoopCovered_18 : decode cX1_isLoopCovered 18 = .ok (.if_icmp .lt 15, 3) := by decide +kernel
theorem dX1_isLoopCovered_21 : decode cX1_isLoopCovered 21 = .ok (.aload_n 0, 1) := by decide +kernel
theorem dX1_isLoopCovered_22 : decode cX1_isLoopCovered 22 = .ok (.iload_n 1, 1) := by decide +kernel
theorem dX1_isLoopCovered_23 : decode cX1_isLoopCovered 23 = .ok (.invokevirtual 73, 3) := by decide +kernel
theorem dX1_isLoopCovered_26 : decode cX1_isLoopCovered 26 = .ok (.bipush 21, 2) := by decide +kernel
theorem dX1_isLoopCovered_28 : decode cX1_isLoopCovered 28 = .ok (.if_icmp .gt 5, 3) := by decide +kernel
theorem dX1_isLoopCovered_31 : decode cX1_isLoopCovered 31 = .ok (.iconst 1, 1) := by decide +kernel
theorem dX1_isLoopCovered_32 : decode cX1_isLoopCovered 32 = .ok (.ireturn, 1) := by decide +kernel
theorem dX1_isLoopCovered_33 : decode cX1_isLoopCovered 33 = .ok (.iinc 1 1, 3) := by decide +kernel
theorem dX1_isLoopCovered_36 : decode cX1_isLoopCovered 36 = .ok (.goto (-34), 3) := by decide +kernel
theorem dX1_isLoopCovered_39 : decode cX1_isLoopCovered 39 = .ok (.iconst 0, 1) := by decide +kernel
theorem dX1_isLoopCovered_40 : decode cX1_isLoopCovered 40 = .ok (.ireturn, 1) := by decide +kernel
theorem dX1_isUnderArm_0 : decode cX1_isUnderArm 0 = .ok (.iconst 0, 1) := by decide +kernel
theorem dX1_isUnderArm_1 : decode cX1_isUnderArm 1 = .ok (.istore_n 1, 1) := by decide +kernel
theorem dX1_isUnderArm_2 : decode cX1_isUnderArm 2 = .ok (.iload_n 1, 1) := by decide +kernel
theorem dX1_isUnderArm_3 : decode cX1_isUnderArm 3 = .ok (.aload_n 0, 1) := by decide +kernel
theorem dX1_isUnderArm_4 : decode cX1_isUnderArm 4 = .ok (.getfield 31, 3) := by decide +kernel
theorem dX1_isUnderArm_7 : decode cX1_isUnderArm 7 = .ok (.if_icmp .ge 32, 3) := by decide +kernel
theorem dX1_isUnderArm_10 : decode cX1_isUnderArm 10 = .ok (.aload_n 0, 1) := by decide +kernel
theorem dX1_isUnderArm_11 : decode cX1_isUnderArm 11 = .ok (.getfield 15, 3) := by decide +kernel
theorem dX1_isUnderArm_14 : decode cX1_isUnderArm 14 = .ok (.iload_n 1, 1) := by decide +kernel
theorem dX1_isUnderArm_15 : decode cX1_isUnderArm 15 = .ok (.iaload, 1) := by decide +kernel
theorem dX1_isUnderArm_16 : decode cX1_isUnderArm 16 = .ok (.bipush 20, 2) := by decide +kernel
theorem dX1_isUnderArm_18 : decode cX1_isUnderArm 18 = .ok (.if_icmp .lt 15, 3) := by decide +kernel
theorem dX1_isUnderArm_21 : decode cX1_isUnderArm 21 = .ok (.aload_n 0, 1) := by decide +kernel
theorem dX1_isUnderArm_22 : decode cX1_isUnderArm 22 = .ok (.iload_n 1, 1) := by decide +kernel
theorem dX1_isUnderArm_23 : decode cX1_isUnderArm 23 = .ok (.invokevirtual 73, 3) := by decide +kernel
theorem dX1_isUnderArm_26 : decode cX1_isUnderArm 26 = .ok (.bipush 20, 2) := by decide +kernel
theorem dX1_isUnderArm_28 : decode cX1_isUnderArm 28 = .ok (.if_icmp .gt 5, 3) := by decide +kernel
theorem dX1_isUnderArm_31 : decode cX1_isUnderArm 31 = .ok (.iconst 1, 1) := by decide +kernel
theorem dX1_isUnderArm_32 : decode cX1_isUnderArm 32 = .ok (.ireturn, 1) := by decide +kernel
theorem dX1_isUnderArm_33 : decode cX1_isUnderArm 33 = .ok (.iinc 1 1, 3) := by decide +kernel
theorem dX1_isUnderArm_36 : decode cX1_isUnderArm 36 = .ok (.goto (-34), 3) := by decide +kernel
theorem dX1_isUnderArm_39 : decode cX1_isUnderArm 39 = .ok (.iconst 0, 1) := by decide +kernel
theorem dX1_isUnderArm_40 : decode cX1_isUnderArm 40 = .ok (.ireturn, 1) := by decide +kernel
theorem dX1_hitIfUnderArm_0 : decode cX1_hitIfUnderArm 0 = .ok (.aload_n 0, 1) := by decide +kernel
theorem dX1_hitIfUnderArm_1 : decode cX1_hitIfUnderArm 1 = .ok (.getfield 51, 3) := by decide +kernel
theorem dX1_hitIfUnderArm_4 : decode cX1_hitIfUnderArm 4 = .ok (.ifCond .ne 33, 3) := by decide +kernel
theorem dX1_hitIfUnderArm_7 : decode cX1_hitIfUnderArm 7 = .ok (.aload_n 0, 1) := by decide +kernel
theorem dX1_hitIfUnderArm_8 : decode cX1_hitIfUnderArm 8 = .ok (.getfield 35, 3) := by decide +kernel
theorem dX1_hitIfUnderArm_11 : decode cX1_hitIfUnderArm 11 = .ok (.iconst 4, 1) := by decide +kernel
theorem dX1_hitIfUnderArm_12 : decode cX1_hitIfUnderArm 12 = .ok (.if_icmp .ge 25, 3) := by decide +kernel
theorem dX1_hitIfUnderArm_15 : decode cX1_hitIfUnderArm 15 = .ok (.aload_n 0, 1) := by decide +kernel
theorem dX1_hitIfUnderArm_16 : decode cX1_hitIfUnderArm 16 = .ok (.invokevirtual 124, 3) := by decide +kernel
theorem dX1_hitIfUnderArm_19 : decode cX1_hitIfUnderArm 19 = .ok (.ifCond .eq 18, 3) := by decide +kernel
theorem dX1_hitIfUnderArm_22 : decode cX1_hitIfUnderArm 22 = .ok (.aload_n 0, 1) := by decide +kernel
theorem dX1_hitIfUnderArm_23 : decode cX1_hitIfUnderArm 23 = .ok (.iconst 1, 1) := by decide +kernel
theorem dX1_hitIfUnderArm_24 : decode cX1_hitIfUnderArm 24 = .ok (.putfield 51, 3) := by decide +kernel
theorem dX1_hitIfUnderArm_27 : decode cX1_hitIfUnderArm 27 = .ok (.aload_n 0, 1) := by decide +kernel
theorem dX1_hitIfUnderArm_28 : decode cX1_hitIfUnderArm 28 = .ok (.dup, 1) := by decide +kernel
theorem dX1_hitIfUnderArm_29 : decode cX1_hitIfUnderArm 29 = .ok (.getfield 63, 3) := by decide +kernel
theorem dX1_hitIfUnderArm_32 : decode cX1_hitIfUnderArm 32 = .ok (.iconst 1, 1) := by decide +kernel
theorem dX1_hitIfUnderArm_33 : decode cX1_hitIfUnderArm 33 = .ok (.iadd, 1) := by decide +kernel
theorem dX1_hitIfUnderArm_34 : decode cX1_hitIfUnderArm 34 = .ok (.putfield 63, 3) := by decide +kernel
theorem dX1_hitIfUnderArm_37 : decode cX1_hitIfUnderArm 37 = .ok (.return_, 1) := by decide +kernel
theorem dX1_countThrough_0 : decode cX1_countThrough 0 = .ok (.iconst 0, 1) := by decide +kernel
theorem dX1_countThrough_1 : decode cX1_countThrough 1 = .ok (.istore_n 1, 1) := by decide +kernel
theorem dX1_countThrough_2 : decode cX1_countThrough 2 = .ok (.iload_n 1, 1) := by decide +kernel
theorem dX1_countThrough_3 : decode cX1_countThrough 3 = .ok (.aload_n 0, 1) := by decide +kernel
theorem dX1_countThrough_4 : decode cX1_countThrough 4 = .ok (.getfield 31, 3) := by decide +kernel
theorem dX1_countThrough_7 : decode cX1_countThrough 7 = .ok (.if_icmp .ge 76, 3) := by decide +kernel
theorem dX1_countThrough_10 : decode cX1_countThrough 10 = .ok (.aload_n 0, 1) := by decide +kernel
theorem dX1_countThrough_11 : decode cX1_countThrough 11 = .ok (.iload_n 1, 1) := by decide +kernel
theorem dX1_countThrough_12 : decode cX1_countThrough 12 = .ok (.invokevirtual 73, 3) := by decide +kernel
theorem dX1_countThrough_15 : decode cX1_countThrough 15 = .ok (.bipush 21, 2) := by decide +kernel
theorem dX1_countThrough_17 : decode cX1_countThrough 17 = .ok (.if_icmp .ne 60, 3) := by decide +kernel
theorem dX1_countThrough_20 : decode cX1_countThrough 20 = .ok (.aload_n 0, 1) := by decide +kernel
theorem dX1_countThrough_21 : decode cX1_countThrough 21 = .ok (.getfield 25, 3) := by decide +kernel
theorem dX1_countThrough_24 : decode cX1_countThrough 24 = .ok (.iload_n 1, 1) := by decide +kernel
theorem dX1_countThrough_25 : decode cX1_countThrough 25 = .ok (.baload, 1) := by decide +kernel
theorem dX1_countThrough_26 : decode cX1_countThrough 26 = .ok (.ifCond .eq 41, 3) := by decide +kernel
theorem dX1_countThrough_29 : decode cX1_countThrough 29 = .ok (.aload_n 0, 1) := by decide +kernel
theorem dX1_countThrough_30 : decode cX1_countThrough 30 = .ok (.dup, 1) := by decide +kernel
theorem dX1_countThrough_31 : decode cX1_countThrough 31 = .ok (.getfield 57, 3) := by decide +kernel
theorem dX1_countThrough_34 : decode cX1_countThrough 34 = .ok (.iconst 1, 1) := by decide +kernel
theorem dX1_countThrough_35 : decode cX1_countThrough 35 = .ok (.iadd, 1) := by decide +kernel
theorem dX1_countThrough_36 : decode cX1_countThrough 36 = .ok (.putfield 57, 3) := by decide +kernel
theorem dX1_countThrough_39 : decode cX1_countThrough 39 = .ok (.aload_n 0, 1) := by decide +kernel
theorem dX1_countThrough_40 : decode cX1_countThrough 40 = .ok (.dup, 1) := by decide +kernel
theorem dX1_countThrough_41 : decode cX1_countThrough 41 = .ok (.getfield 41, 3) := by decide +kernel
theorem dX1_countThrough_44 : decode cX1_countThrough 44 = .ok (.bipush 8, 2) := by decide +kernel
theorem dX1_countThrough_46 : decode cX1_countThrough 46 = .ok (.aload_n 0, 1) := by decide +kernel
theorem dX1_countThrough_47 : decode cX1_countThrough 47 = .ok (.getfield 9, 3) := by decide +kernel
theorem dX1_countThrough_50 : decode cX1_countThrough 50 = .ok (.iload_n 1, 1) := by decide +kernel
theorem dX1_countThrough_51 : decode cX1_countThrough 51 = .ok (.iaload, 1) := by decide +kernel
theorem dX1_countThrough_52 : decode cX1_countThrough 52 = .ok (.imul, 1) := by decide +kernel
theorem dX1_countThrough_53 : decode cX1_countThrough 53 = .ok (.aload_n 0, 1) := by decide +kernel
theorem dX1_countThrough_54 : decode cX1_countThrough 54 = .ok (.getfield 41, 3) := by decide +kernel
theorem dX1_countThrough_57 : decode cX1_countThrough 57 = .ok (.isub, 1) := by decide +kernel
theorem dX1_countThrough_58 : decode cX1_countThrough 58 = .ok (.iconst 4, 1) := by decide +kernel
theorem dX1_countThrough_59 : decode cX1_countThrough 59 = .ok (.idiv, 1) := by decide +kernel
theorem dX1_countThrough_60 : decode cX1_countThrough 60 = .ok (.iadd, 1) := by decide +kernel
theorem dX1_countThrough_61 : decode cX1_countThrough 61 = .ok (.putfield 41, 3) := by decide +kernel
theorem dX1_countThrough_64 : decode cX1_countThrough 64 = .ok (.goto 13, 3) := by decide +kernel
theorem dX1_countThrough_67 : decode cX1_countThrough 67 = .ok (.aload_n 0, 1) := by decide +kernel
theorem dX1_countThrough_68 : decode cX1_countThrough 68 = .ok (.dup, 1) := by decide +kernel
theorem dX1_countThrough_69 : decode cX1_countThrough 69 = .ok (.getfield 60, 3) := by decide +kernel
theorem dX1_countThrough_72 : decode cX1_countThrough 72 = .ok (.iconst 1, 1) := by decide +kernel
theorem dX1_countThrough_73 : decode cX1_countThrough 73 = .ok (.iadd, 1) := by decide +kernel
theorem dX1_countThrough_74 : decode cX1_countThrough 74 = .ok (.putfield 60, 3) := by decide +kernel
theorem dX1_countThrough_77 : decode cX1_countThrough 77 = .ok (.iinc 1 1, 3) := by decide +kernel
theorem dX1_countThrough_80 : decode cX1_countThrough 80 = .ok (.goto (-78), 3) := by decide +kernel
theorem dX1_countThrough_83 : decode cX1_countThrough 83 = .ok (.return_, 1) := by decide +kernel
theorem dX1_hasGoneThrough_0 : decode cX1_hasGoneThrough 0 = .ok (.aload_n 0, 1) := by decide +kernel
theorem dX1_hasGoneThrough_1 : decode cX1_hasGoneThrough 1 = .ok (.iload_n 1, 1) := by decide +kernel
theorem dX1_hasGoneThrough_2 : decode cX1_hasGoneThrough 2 = .ok (.invokevirtual 127, 3) := by decide +kernel
theorem dX1_hasGoneThrough_5 : decode cX1_hasGoneThrough 5 = .ok (.ifCond .eq 17, 3) := by decide +kernel
theorem dX1_hasGoneThrough_8 : decode cX1_hasGoneThrough 8 = .ok (.aload_n 0, 1) := by decide +kernel
theorem dX1_hasGoneThrough_9 : decode cX1_hasGoneThrough 9 = .ok (.iload_n 1, 1) := by decide +kernel
theorem dX1_hasGoneThrough_10 : decode cX1_hasGoneThrough 10 = .ok (.invokevirtual 73, 3) := by decide +kernel
theorem dX1_hasGoneThrough_13 : decode cX1_hasGoneThrough 13 = .ok (.bipush 21, 2) := by decide +kernel
theorem dX1_hasGoneThrough_15 : decode cX1_hasGoneThrough 15 = .ok (.if_icmp .lt 7, 3) := by decide +kernel
theorem dX1_hasGoneThrough_18 : decode cX1_hasGoneThrough 18 = .ok (.iconst 1, 1) := by decide +kernel
theorem dX1_hasGoneThrough_19 : decode cX1_hasGoneThrough 19 = .ok (.goto 4, 3) := by decide +kernel
theorem dX1_hasGoneThrough_22 : decode cX1_hasGoneThrough 22 = .ok (.iconst 0, 1) := by decide +kernel
theorem dX1_hasGoneThrough_23 : decode cX1_hasGoneThrough 23 = .ok (.ireturn, 1) := by decide +kernel
theorem dX1_canBeMended_0 : decode cX1_canBeMended 0 = .ok (.aload_n 0, 1) := by decide +kernel
theorem dX1_canBeMended_1 : decode cX1_canBeMended 1 = .ok (.getfield 51, 3) := by decide +kernel
theorem dX1_canBeMended_4 : decode cX1_canBeMended 4 = .ok (.ifCond .eq 14, 3) := by decide +kernel
theorem dX1_canBeMended_7 : decode cX1_canBeMended 7 = .ok (.aload_n 0, 1) := by decide +kernel
theorem dX1_canBeMended_8 : decode cX1_canBeMended 8 = .ok (.invokevirtual 124, 3) := by decide +kernel
theorem dX1_canBeMended_11 : decode cX1_canBeMended 11 = .ok (.ifCond .ne 7, 3) := by decide +kernel
theorem dX1_canBeMended_14 : decode cX1_canBeMended 14 = .ok (.iconst 1, 1) := by decide +kernel
theorem dX1_canBeMended_15 : decode cX1_canBeMended 15 = .ok (.goto 4, 3) := by decide +kernel
theorem dX1_canBeMended_18 : decode cX1_canBeMended 18 = .ok (.iconst 0, 1) := by decide +kernel
theorem dX1_canBeMended_19 : decode cX1_canBeMended 19 = .ok (.ireturn, 1) := by decide +kernel
theorem dX1_countUnlet_0 : decode cX1_countUnlet 0 = .ok (.iconst 0, 1) := by decide +kernel
theorem dX1_countUnlet_1 : decode cX1_countUnlet 1 = .ok (.istore_n 1, 1) := by decide +kernel
theorem dX1_countUnlet_2 : decode cX1_countUnlet 2 = .ok (.iconst 0, 1) := by decide +kernel
theorem dX1_countUnlet_3 : decode cX1_countUnlet 3 = .ok (.istore_n 2, 1) := by decide +kernel
theorem dX1_countUnlet_4 : decode cX1_countUnlet 4 = .ok (.iload_n 2, 1) := by decide +kernel
theorem dX1_countUnlet_5 : decode cX1_countUnlet 5 = .ok (.aload_n 0, 1) := by decide +kernel
theorem dX1_countUnlet_6 : decode cX1_countUnlet 6 = .ok (.getfield 31, 3) := by decide +kernel
theorem dX1_countUnlet_9 : decode cX1_countUnlet 9 = .ok (.if_icmp .ge 32, 3) := by decide +kernel
theorem dX1_countUnlet_12 : decode cX1_countUnlet 12 = .ok (.aload_n 0, 1) := by decide +kernel
theorem dX1_countUnlet_13 : decode cX1_countUnlet 13 = .ok (.getfield 25, 3) := by decide +kernel
theorem dX1_countUnlet_16 : decode cX1_countUnlet 16 = .ok (.iload_n 2, 1) := by decide +kernel
theorem dX1_countUnlet_17 : decode cX1_countUnlet 17 = .ok (.baload, 1) := by decide +kernel
theorem dX1_countUnlet_18 : decode cX1_countUnlet 18 = .ok (.ifCond .ne 17, 3) := by decide +kernel
theorem dX1_countUnlet_21 : decode cX1_countUnlet 21 = .ok (.aload_n 0, 1) := by decide +kernel
theorem dX1_countUnlet_22 : decode cX1_countUnlet 22 = .ok (.getfield 15, 3) := by decide +kernel
theorem dX1_countUnlet_25 : decode cX1_countUnlet 25 = .ok (.iload_n 2, 1) := by decide +kernel
theorem dX1_countUnlet_26 : decode cX1_countUnlet 26 = .ok (.iaload, 1) := by decide +kernel
theorem dX1_countUnlet_27 : decode cX1_countUnlet 27 = .ok (.bipush 19, 2) := by decide +kernel
theorem dX1_countUnlet_29 : decode cX1_countUnlet 29 = .ok (.if_icmp .gt 6, 3) := by decide +kernel
theorem dX1_countUnlet_32 : decode cX1_countUnlet 32 = .ok (.iinc 1 1, 3) := by decide +kernel
theorem dX1_countUnlet_35 : decode cX1_countUnlet 35 = .ok (.iinc 2 1, 3) := by decide +kernel
theorem dX1_countUnlet_38 : decode cX1_countUnlet 38 = .ok (.goto (-34), 3) := by decide +kernel
theorem dX1_countUnlet_41 : decode cX1_countUnlet 41 = .ok (.iload_n 1, 1) := by decide +kernel
theorem dX1_countUnlet_42 : decode cX1_countUnlet 42 = .ok (.ireturn, 1) := by decide +kernel
theorem dX1_number_0 : decode cX1_number 0 = .ok (.iload_n 1, 1) := by decide +kernel
theorem dX1_number_1 : decode cX1_number 1 = .ok (.tableswitch 94 0 6 #[43, 48, 53, 58, 63, 76, 89], 43) := by decide +kernel
theorem dX1_number_44 : decode cX1_number 44 = .ok (.aload_n 0, 1) := by decide +kernel
theorem dX1_number_45 : decode cX1_number 45 = .ok (.getfield 31, 3) := by decide +kernel
theorem dX1_number_48 : decode cX1_number 48 = .ok (.ireturn, 1) := by decide +kernel
theorem dX1_number_49 : decode cX1_number 49 = .ok (.aload_n 0, 1) := by decide +kernel
theorem dX1_number_50 : decode cX1_number 50 = .ok (.getfield 35, 3) := by decide +kernel
theorem dX1_number_53 : decode cX1_number 53 = .ok (.ireturn, 1) := by decide +kernel
theorem dX1_number_54 : decode cX1_number 54 = .ok (.aload_n 0, 1) := by decide +kernel
theorem dX1_number_55 : decode cX1_number 55 = .ok (.getfield 38, 3) := by decide +kernel
theorem dX1_number_58 : decode cX1_number 58 = .ok (.ireturn, 1) := by decide +kernel
theorem dX1_number_59 : decode cX1_number 59 = .ok (.aload_n 0, 1) := by decide +kernel
theorem dX1_number_60 : decode cX1_number 60 = .ok (.getfield 41, 3) := by decide +kernel
theorem dX1_number_63 : decode cX1_number 63 = .ok (.ireturn, 1) := by decide +kernel
theorem dX1_number_64 : decode cX1_number 64 = .ok (.aload_n 0, 1) := by decide +kernel
theorem dX1_number_65 : decode cX1_number 65 = .ok (.getfield 47, 3) := by decide +kernel
theorem dX1_number_68 : decode cX1_number 68 = .ok (.ifCond .eq 7, 3) := by decide +kernel
theorem dX1_number_71 : decode cX1_number 71 = .ok (.iconst 1, 1) := by decide +kernel
theorem dX1_number_72 : decode cX1_number 72 = .ok (.goto 4, 3) := by decide +kernel
theorem dX1_number_75 : decode cX1_number 75 = .ok (.iconst 0, 1) := by decide +kernel
theorem dX1_number_76 : decode cX1_number 76 = .ok (.ireturn, 1) := by decide +kernel
theorem dX1_number_77 : decode cX1_number 77 = .ok (.aload_n 0, 1) := by decide +kernel
theorem dX1_number_78 : decode cX1_number 78 = .ok (.getfield 51, 3) := by decide +kernel
theorem dX1_number_81 : decode cX1_number 81 = .ok (.ifCond .eq 7, 3) := by decide +kernel
theorem dX1_number_84 : decode cX1_number 84 = .ok (.iconst 1, 1) := by decide +kernel
theorem dX1_number_85 : decode cX1_number 85 = .ok (.goto 4, 3) := by decide +kernel
theorem dX1_number_88 : decode cX1_number 88 = .ok (.iconst 0, 1) := by decide +kernel
theorem dX1_number_89 : decode cX1_number 89 = .ok (.ireturn, 1) := by decide +kernel
theorem dX1_number_90 : decode cX1_number 90 = .ok (.aload_n 0, 1) := by decide +kernel
theorem dX1_number_91 : decode cX1_number 91 = .ok (.getfield 44, 3) := by decide +kernel
theorem dX1_number_94 : decode cX1_number 94 = .ok (.ireturn, 1) := by decide +kernel
theorem dX1_number_95 : decode cX1_number 95 = .ok (.aload_n 0, 1) := by decide +kernel
theorem dX1_number_96 : decode cX1_number 96 = .ok (.invokevirtual 130, 3) := by decide +kernel
theorem dX1_number_99 : decode cX1_number 99 = .ok (.ireturn, 1) := by decide +kernel
theorem dX1_numberOfVehicle_0 : decode cX1_numberOfVehicle 0 = .ok (.aload_n 0, 1) := by decide +kernel
theorem dX1_numberOfVehicle_1 : decode cX1_numberOfVehicle 1 = .ok (.iload_n 1, 1) := by decide +kernel
theorem dX1_numberOfVehicle_2 : decode cX1_numberOfVehicle 2 = .ok (.invokevirtual 127, 3) := by decide +kernel
theorem dX1_numberOfVehicle_5 : decode cX1_numberOfVehicle 5 = .ok (.ifCond .ne 5, 3) := by decide +kernel
theorem dX1_numberOfVehicle_8 : decode cX1_numberOfVehicle 8 = .ok (.iconst (-1), 1) := by decide +kernel
theorem dX1_numberOfVehicle_9 : decode cX1_numberOfVehicle 9 = .ok (.ireturn, 1) := by decide +kernel
theorem dX1_numberOfVehicle_10 : decode cX1_numberOfVehicle 10 = .ok (.iload_n 2, 1) := by decide +kernel
theorem dX1_numberOfVehicle_11 : decode cX1_numberOfVehicle 11 = .ok (.tableswitch 73 0 3 #[29, 36, 43, 58], 29) := by decide +kernel
theorem dX1_numberOfVehicle_40 : decode cX1_numberOfVehicle 40 = .ok (.aload_n 0, 1) := by decide +kernel
theorem dX1_numberOfVehicle_41 : decode cX1_numberOfVehicle 41 = .ok (.getfield 9, 3) := by decide +kernel
theorem dX1_numberOfVehicle_44 : decode cX1_numberOfVehicle 44 = .ok (.iload_n 1, 1) := by decide +kernel
theorem dX1_numberOfVehicle_45 : decode cX1_numberOfVehicle 45 = .ok (.iaload, 1) := by decide +kernel
theorem dX1_numberOfVehicle_46 : decode cX1_numberOfVehicle 46 = .ok (.ireturn, 1) := by decide +kernel
theorem dX1_numberOfVehicle_47 : decode cX1_numberOfVehicle 47 = .ok (.aload_n 0, 1) := by decide +kernel
theorem dX1_numberOfVehicle_48 : decode cX1_numberOfVehicle 48 = .ok (.getfield 15, 3) := by decide +kernel
theorem dX1_numberOfVehicle_51 : decode cX1_numberOfVehicle 51 = .ok (.iload_n 1, 1) := by decide +kernel
theorem dX1_numberOfVehicle_52 : decode cX1_numberOfVehicle 52 = .ok (.iaload, 1) := by decide +kernel
theorem dX1_numberOfVehicle_53 : decode cX1_numberOfVehicle 53 = .ok (.ireturn, 1) := by decide +kernel
theorem dX1_numberOfVehicle_54 : decode cX1_numberOfVehicle 54 = .ok (.aload_n 0, 1) := by decide +kernel
theorem dX1_numberOfVehicle_55 : decode cX1_numberOfVehicle 55 = .ok (.getfield 18, 3) := by decide +kernel
theorem dX1_numberOfVehicle_58 : decode cX1_numberOfVehicle 58 = .ok (.iload_n 1, 1) := by decide +kernel
theorem dX1_numberOfVehicle_59 : decode cX1_numberOfVehicle 59 = .ok (.baload, 1) := by decide +kernel
theorem dX1_numberOfVehicle_60 : decode cX1_numberOfVehicle 60 = .ok (.ifCond .eq 7, 3) := by decide +kernel
theorem dX1_numberOfVehicle_63 : decode cX1_numberOfVehicle 63 = .ok (.iconst 1, 1) := by decide +kernel
theorem dX1_numberOfVehicle_64 : decode cX1_numberOfVehicle 64 = .ok (.goto 4, 3) := by decide +kernel
theorem dX1_numberOfVehicle_67 : decode cX1_numberOfVehicle 67 = .ok (.iconst 0, 1) := by decide +kernel
theorem dX1_numberOfVehicle_68 : decode cX1_numberOfVehicle 68 = .ok (.ireturn, 1) := by decide +kernel
theorem dX1_numberOfVehicle_69 : decode cX1_numberOfVehicle 69 = .ok (.aload_n 0, 1) := by decide +kernel
theorem dX1_numberOfVehicle_70 : decode cX1_numberOfVehicle 70 = .ok (.getfield 22, 3) := by decide +kernel
theorem dX1_numberOfVehicle_73 : decode cX1_numberOfVehicle 73 = .ok (.iload_n 1, 1) := by decide +kernel
theorem dX1_numberOfVehicle_74 : decode cX1_numberOfVehicle 74 = .ok (.baload, 1) := by decide +kernel
theorem dX1_numberOfVehicle_75 : decode cX1_numberOfVehicle 75 = .ok (.ifCond .eq 7, 3) := by decide +kernel
theorem dX1_numberOfVehicle_78 : decode cX1_numberOfVehicle 78 = .ok (.iconst 1, 1) := by decide +kernel
theorem dX1_numberOfVehicle_79 : decode cX1_numberOfVehicle 79 = .ok (.goto 4, 3) := by decide +kernel
theorem dX1_numberOfVehicle_82 : decode cX1_numberOfVehicle 82 = .ok (.iconst 0, 1) := by decide +kernel
theorem dX1_numberOfVehicle_83 : decode cX1_numberOfVehicle 83 = .ok (.ireturn, 1) := by decide +kernel
theorem dX1_numberOfVehicle_84 : decode cX1_numberOfVehicle 84 = .ok (.aload_n 0, 1) := by decide +kernel
theorem dX1_numberOfVehicle_85 : decode cX1_numberOfVehicle 85 = .ok (.getfield 25, 3) := by decide +kernel
theorem dX1_numberOfVehicle_88 : decode cX1_numberOfVehicle 88 = .ok (.iload_n 1, 1) := by decide +kernel
theorem dX1_numberOfVehicle_89 : decode cX1_numberOfVehicle 89 = .ok (.baload, 1) := by decide +kernel
theorem dX1_numberOfVehicle_90 : decode cX1_numberOfVehicle 90 = .ok (.ifCond .eq 7, 3) := by decide +kernel
theorem dX1_numberOfVehicle_93 : decode cX1_numberOfVehicle 93 = .ok (.iconst 1, 1) := by decide +kernel
theorem dX1_numberOfVehicle_94 : decode cX1_numberOfVehicle 94 = .ok (.goto 4, 3) := by decide +kernel
theorem dX1_numberOfVehicle_97 : decode cX1_numberOfVehicle 97 = .ok (.iconst 0, 1) := by decide +kernel
theorem dX1_numberOfVehicle_98 : decode cX1_numberOfVehicle 98 = .ok (.ireturn, 1) := by decide +kernel
theorem dX1_tally_0 : decode cX1_tally 0 = .ok (.iload_n 1, 1) := by decide +kernel
theorem dX1_tally_1 : decode cX1_tally 1 = .ok (.tableswitch 103 2 9 #[47, 52, 57, 62, 67, 72, 85, 98], 47) := by decide +kernel
theorem dX1_tally_48 : decode cX1_tally 48 = .ok (.aload_n 0, 1) := by decide +kernel
theorem dX1_tally_49 : decode cX1_tally 49 = .ok (.getfield 31, 3) := by decide +kernel
theorem dX1_tally_52 : decode cX1_tally 52 = .ok (.ireturn, 1) := by decide +kernel
theorem dX1_tally_53 : decode cX1_tally 53 = .ok (.aload_n 0, 1) := by decide +kernel
theorem dX1_tally_54 : decode cX1_tally 54 = .ok (.getfield 54, 3) := by decide +kernel
theorem dX1_tally_57 : decode cX1_tally 57 = .ok (.ireturn, 1) := by decide +kernel
theorem dX1_tally_58 : decode cX1_tally 58 = .ok (.aload_n 0, 1) := by decide +kernel
theorem dX1_tally_59 : decode cX1_tally 59 = .ok (.getfield 57, 3) := by decide +kernel
theorem dX1_tally_62 : decode cX1_tally 62 = .ok (.ireturn, 1) := by decide +kernel
theorem dX1_tally_63 : decode cX1_tally 63 = .ok (.aload_n 0, 1) := by decide +kernel
theorem dX1_tally_64 : decode cX1_tally 64 = .ok (.getfield 60, 3) := by decide +kernel
theorem dX1_tally_67 : decode cX1_tally 67 = .ok (.ireturn, 1) := by decide +kernel
theorem dX1_tally_68 : decode cX1_tally 68 = .ok (.aload_n 0, 1) := by decide +kernel
theorem dX1_tally_69 : decode cX1_tally 69 = .ok (.getfield 63, 3) := by decide +kernel
theorem dX1_tally_72 : decode cX1_tally 72 = .ok (.ireturn, 1) := by decide +kernel
theorem dX1_tally_73 : decode cX1_tally 73 = .ok (.aload_n 0, 1) := by decide +kernel
theorem dX1_tally_74 : decode cX1_tally 74 = .ok (.getfield 51, 3) := by decide +kernel
theorem dX1_tally_77 : decode cX1_tally 77 = .ok (.ifCond .eq 7, 3) := by decide +kernel
theorem dX1_tally_80 : decode cX1_tally 80 = .ok (.iconst 1, 1) := by decide +kernel
theorem dX1_tally_81 : decode cX1_tally 81 = .ok (.goto 4, 3) := by decide +kernel
theorem dX1_tally_84 : decode cX1_tally 84 = .ok (.iconst 0, 1) := by decide +kernel
theorem dX1_tally_85 : decode cX1_tally 85 = .ok (.ireturn, 1) := by decide +kernel
theorem dX1_tally_86 : decode cX1_tally 86 = .ok (.aload_n 0, 1) := by decide +kernel
theorem dX1_tally_87 : decode cX1_tally 87 = .ok (.getfield 47, 3) := by decide +kernel
theorem dX1_tally_90 : decode cX1_tally 90 = .ok (.ifCond .eq 7, 3) := by decide +kernel
theorem dX1_tally_93 : decode cX1_tally 93 = .ok (.iconst 1, 1) := by decide +kernel
theorem dX1_tally_94 : decode cX1_tally 94 = .ok (.goto 4, 3) := by decide +kernel
theorem dX1_tally_97 : decode cX1_tally 97 = .ok (.iconst 0, 1) := by decide +kernel
theorem dX1_tally_98 : decode cX1_tally 98 = .ok (.ireturn, 1) := by decide +kernel
theorem dX1_tally_99 : decode cX1_tally 99 = .ok (.aload_n 0, 1) := by decide +kernel
theorem dX1_tally_100 : decode cX1_tally 100 = .ok (.getfield 66, 3) := by decide +kernel
theorem dX1_tally_103 : decode cX1_tally 103 = .ok (.ireturn, 1) := by decide +kernel
theorem dX1_tally_104 : decode cX1_tally 104 = .ok (.iconst 0, 1) := by decide +kernel
theorem dX1_tally_105 : decode cX1_tally 105 = .ok (.ireturn, 1) := by decide +kernel
theorem dX2_init_0 : decode cX2_init 0 = .ok (.aload_n 0, 1) := by decide +kernel
theorem dX2_init_1 : decode cX2_init 1 = .ok (.invokespecial 1, 3) := by decide +kernel
theorem dX2_init_4 : decode cX2_init 4 = .ok (.aload_n 0, 1) := by decide +kernel
theorem dX2_init_5 : decode cX2_init 5 = .ok (.bipush 120, 2) := by decide +kernel
theorem dX2_init_7 : decode cX2_init 7 = .ok (.newarray .char, 2) := by decide +kernel
theorem dX2_init_9 : decode cX2_init 9 = .ok (.putfield 9, 3) := by decide +kernel
theorem dX2_init_12 : decode cX2_init 12 = .ok (.aload_n 0, 1) := by decide +kernel
theorem dX2_init_13 : decode cX2_init 13 = .ok (.iconst 0, 1) := by decide +kernel
theorem dX2_init_14 : decode cX2_init 14 = .ok (.putfield 13, 3) := by decide +kernel
theorem dX2_init_17 : decode cX2_init 17 = .ok (.aload_n 0, 1) := by decide +kernel
theorem dX2_init_18 : decode cX2_init 18 = .ok (.new 17, 3) := by decide +kernel
theorem dX2_init_21 : decode cX2_init 21 = .ok (.dup, 1) := by decide +kernel
theorem dX2_init_22 : decode cX2_init 22 = .ok (.invokespecial 19, 3) := by decide +kernel
theorem dX2_init_25 : decode cX2_init 25 = .ok (.putfield 20, 3) := by decide +kernel
theorem dX2_init_28 : decode cX2_init 28 = .ok (.aload_n 0, 1) := by decide +kernel
theorem dX2_init_29 : decode cX2_init 29 = .ok (.new 17, 3) := by decide +kernel
theorem dX2_init_32 : decode cX2_init 32 = .ok (.dup, 1) := by decide +kernel
theorem dX2_init_33 : decode cX2_init 33 = .ok (.invokespecial 19, 3) := by decide +kernel
theorem dX2_init_36 : decode cX2_init 36 = .ok (.putfield 24, 3) := by decide +kernel
theorem dX2_init_39 : decode cX2_init 39 = .ok (.aload_n 0, 1) := by decide +kernel
theorem dX2_init_40 : decode cX2_init 40 = .ok (.bipush 14, 2) := by decide +kernel
theorem dX2_init_42 : decode cX2_init 42 = .ok (.anewarray 17, 3) := by decide +kernel
theorem dX2_init_45 : decode cX2_init 45 = .ok (.putfield 27, 3) := by decide +kernel
theorem dX2_init_48 : decode cX2_init 48 = .ok (.aload_n 0, 1) := by decide +kernel
theorem dX2_init_49 : decode cX2_init 49 = .ok (.iconst 0, 1) := by decide +kernel
theorem dX2_init_50 : decode cX2_init 50 = .ok (.putfield 31, 3) := by decide +kernel
theorem dX2_init_53 : decode cX2_init 53 = .ok (.aload_n 0, 1) := by decide +kernel
theorem dX2_init_54 : decode cX2_init 54 = .ok (.iconst 0, 1) := by decide +kernel
theorem dX2_init_55 : decode cX2_init 55 = .ok (.putfield 34, 3) := by decide +kernel
theorem dX2_init_58 : decode cX2_init 58 = .ok (.aload_n 0, 1) := by decide +kernel
theorem dX2_init_59 : decode cX2_init 59 = .ok (.iconst 2, 1) := by decide +kernel
theorem dX2_init_60 : decode cX2_init 60 = .ok (.anewarray 17, 3) := by decide +kernel
theorem dX2_init_63 : decode cX2_init 63 = .ok (.putfield 37, 3) := by decide +kernel
theorem dX2_init_66 : decode cX2_init 66 = .ok (.aload_n 0, 1) := by decide +kernel
theorem dX2_init_67 : decode cX2_init 67 = .ok (.iconst 2, 1) := by decide +kernel
theorem dX2_init_68 : decode cX2_init 68 = .ok (.newarray .boolean, 2) := by decide +kernel
theorem dX2_init_70 : decode cX2_init 70 = .ok (.putfield 40, 3) := by decide +kernel
theorem dX2_init_73 : decode cX2_init 73 = .ok (.iconst 0, 1) := by decide +kernel
theorem dX2_init_74 : decode cX2_init 74 = .ok (.istore_n 1, 1) := by decide +kernel
theorem dX2_init_75 : decode cX2_init 75 = .ok (.iload_n 1, 1) := by decide +kernel
theorem dX2_init_76 : decode cX2_init 76 = .ok (.bipush 14, 2) := by decide +kernel
theorem dX2_init_78 : decode cX2_init 78 = .ok (.if_icmp .ge 22, 3) := by decide +kernel
theorem dX2_init_81 : decode cX2_init 81 = .ok (.aload_n 0, 1) := by decide +kernel
theorem dX2_init_82 : decode cX2_init 82 = .ok (.getfield 27, 3) := by decide +kernel
theorem dX2_init_85 : decode cX2_init 85 = .ok (.iload_n 1, 1) := by decide +kernel
theorem dX2_init_86 : decode cX2_init 86 = .ok (.new 17, 3) := by decide +kernel
theorem dX2_init_89 : decode cX2_init 89 = .ok (.dup, 1) := by decide +kernel
theorem dX2_init_90 : decode cX2_init 90 = .ok (.invokespecial 19, 3) := by decide +kernel
theorem dX2_init_93 : decode cX2_init 93 = .ok (.aastore, 1) := by decide +kernel
theorem dX2_init_94 : decode cX2_init 94 = .ok (.iinc 1 1, 3) := by decide +kernel
theorem dX2_init_97 : decode cX2_init 97 = .ok (.goto (-22), 3) := by decide +kernel
theorem dX2_init_100 : decode cX2_init 100 = .ok (.iconst 0, 1) := by decide +kernel
theorem dX2_init_101 : decode cX2_init 101 = .ok (.istore_n 1, 1) := by decide +kernel
theorem dX2_init_102 : decode cX2_init 102 = .ok (.iload_n 1, 1) := by decide +kernel
theorem dX2_init_103 : decode cX2_init 103 = .ok (.iconst 2, 1) := by decide +kernel
theorem dX2_init_104 : decode cX2_init 104 = .ok (.if_icmp .ge 22, 3) := by decide +kernel
theorem dX2_init_107 : decode cX2_init 107 = .ok (.aload_n 0, 1) := by decide +kernel
theorem dX2_init_108 : decode cX2_init 108 = .ok (.getfield 37, 3) := by decide +kernel
theorem dX2_init_111 : decode cX2_init 111 = .ok (.iload_n 1, 1) := by decide +kernel
theorem dX2_init_112 : decode cX2_init 112 = .ok (.new 17, 3) := by decide +kernel
theorem dX2_init_115 : decode cX2_init 115 = .ok (.dup, 1) := by decide +kernel
theorem dX2_init_116 : decode cX2_init 116 = .ok (.invokespecial 19, 3) := by decide +kernel
theorem dX2_init_119 : decode cX2_init 119 = .ok (.aastore, 1) := by decide +kernel
theorem dX2_init_120 : decode cX2_init 120 = .ok (.iinc 1 1, 3) := by decide +kernel
theorem dX2_init_123 : decode cX2_init 123 = .ok (.goto (-21), 3) := by decide +kernel
theorem dX2_init_126 : decode cX2_init 126 = .ok (.return_, 1) := by decide +kernel
theorem dX2_append_0 : decode cX2_append 0 = .ok (.iload_n 1, 1) := by decide +kernel
theorem dX2_append_1 : decode cX2_append 1 = .ok (.ifCond .lt 10, 3) := by decide +kernel
theorem dX2_append_4 : decode cX2_append 4 = .ok (.iload_n 1, 1) := by decide +kernel
theorem dX2_append_5 : decode cX2_append 5 = .ok (.sipush 255, 3) := by decide +kernel
theorem dX2_append_8 : decode cX2_append 8 = .ok (.if_icmp .le 13, 3) := by decide +kernel
theorem dX2_append_11 : decode cX2_append 11 = .ok (.new 44, 3) := by decide +kernel
theorem dX2_append_14 : decode cX2_append 14 = .ok (.dup, 1) := by decide +kernel
theorem dX2_append_15 : decode cX2_append 15 = .ok (.ldc 46, 2) := by decide +kernel
theorem dX2_append_17 : decode cX2_append 17 = .ok (.invokespecial 48, 3) := by decide +kernel
theorem dX2_append_20 : decode cX2_append 20 = .ok (.athrow, 1) := by decide +kernel
theorem dX2_append_21 : decode cX2_append 21 = .ok (.aload_n 0, 1) := by decide +kernel
theorem dX2_append_22 : decode cX2_append 22 = .ok (.getfield 13, 3) := by decide +kernel
theorem dX2_append_25 : decode cX2_append 25 = .ok (.bipush 120, 2) := by decide +kernel
theorem dX2_append_27 : decode cX2_append 27 = .ok (.if_icmp .lt 13, 3) := by decide +kernel
theorem dX2_append_30 : decode cX2_append 30 = .ok (.new 51, 3) := by decide +kernel
theorem dX2_append_33 : decode cX2_append 33 = .ok (.dup, 1) := by decide +kernel
theorem dX2_append_34 : decode cX2_append 34 = .ok (.ldc 53, 2) := by decide +kernel
theorem dX2_append_36 : decode cX2_append 36 = .ok (.invokespecial 55, 3) := by decide +kernel
theorem dX2_append_39 : decode cX2_append 39 = .ok (.athrow, 1) := by decide +kernel
theorem dX2_append_40 : decode cX2_append 40 = .ok (.aload_n 0, 1) := by decide +kernel
theorem dX2_append_41 : decode cX2_append 41 = .ok (.getfield 9, 3) := by decide +kernel
theorem dX2_append_44 : decode cX2_append 44 = .ok (.aload_n 0, 1) := by decide +kernel
theorem dX2_append_45 : decode cX2_append 45 = .ok (.getfield 13, 3) := by decide +kernel
theorem dX2_append_48 : decode cX2_append 48 = .ok (.iload_n 1, 1) := by decide +kernel
theorem dX2_append_49 : decode cX2_append 49 = .ok (.i2c, 1) := by decide +kernel
theorem dX2_append_50 : decode cX2_append 50 = .ok (.castore, 1) := by decide +kernel
theorem dX2_append_51 : decode cX2_append 51 = .ok (.aload_n 0, 1) := by decide +kernel
theorem dX2_append_52 : decode cX2_append 52 = .ok (.dup, 1) := by decide +kernel
theorem dX2_append_53 : decode cX2_append 53 = .ok (.getfield 13, 3) := by decide +kernel
theorem dX2_append_56 : decode cX2_append 56 = .ok (.iconst 1, 1) := by decide +kernel
theorem dX2_append_57 : decode cX2_append 57 = .ok (.iadd, 1) := by decide +kernel
theorem dX2_append_58 : decode cX2_append 58 = .ok (.putfield 13, 3) := by decide +kernel
theorem dX2_append_61 : decode cX2_append 61 = .ok (.aload_n 0, 1) := by decide +kernel
theorem dX2_append_62 : decode cX2_append 62 = .ok (.getfield 13, 3) := by decide +kernel
theorem dX2_append_65 : decode cX2_append 65 = .ok (.ireturn, 1) := by decide +kernel
theorem dX2_clearText_0 : decode cX2_clearText 0 = .ok (.aload_n 0, 1) := by decide +kernel
theorem dX2_clearText_1 : decode cX2_clearText 1 = .ok (.getfield 13, 3) := by decide +kernel
theorem dX2_clearText_4 : decode cX2_clearText 4 = .ok (.istore_n 1, 1) := by decide +kernel
theorem dX2_clearText_5 : decode cX2_clearText 5 = .ok (.aload_n 0, 1) := by decide +kernel
theorem dX2_clearText_6 : decode cX2_clearText 6 = .ok (.iconst 0, 1) := by decide +kernel
theorem dX2_clearText_7 : decode cX2_clearText 7 = .ok (.putfield 13, 3) := by decide +kernel
theorem dX2_clearText_10 : decode cX2_clearText 10 = .ok (.iload_n 1, 1) := by decide +kernel
theorem dX2_clearText_11 : decode cX2_clearText 11 = .ok (.ireturn, 1) := by decide +kernel
theorem dX2_errorPosition_0 : decode cX2_errorPosition 0 = .ok (.aload_n 0, 1) := by decide +kernel
theorem dX2_errorPosition_1 : decode cX2_errorPosition 1 = .ok (.iconst 0, 1) := by decide +kernel
theorem dX2_errorPosition_2 : decode cX2_errorPosition 2 = .ok (.invokevirtual 56, 3) := by decide +kernel
theorem dX2_errorPosition_5 : decode cX2_errorPosition 5 = .ok (.bipush 71, 2) := by decide +kernel
theorem dX2_errorPosition_7 : decode cX2_errorPosition 7 = .ok (.if_icmp .eq 5, 3) := by decide +kernel
theorem dX2_errorPosition_10 : decode cX2_errorPosition 10 = .ok (.iconst 0, 1) := by decide +kernel
theorem dX2_errorPosition_11 : decode cX2_errorPosition 11 = .ok (.ireturn, 1) := by decide +kernel
theorem dX2_errorPosition_12 : decode cX2_errorPosition 12 = .ok (.iconst 1, 1) := by decide +kernel
theorem dX2_errorPosition_13 : decode cX2_errorPosition 13 = .ok (.istore_n 1, 1) := by decide +kernel
theorem dX2_errorPosition_14 : decode cX2_errorPosition 14 = .ok (.iconst 0, 1) := by decide +kernel
theorem dX2_errorPosition_15 : decode cX2_errorPosition 15 = .ok (.istore_n 2, 1) := by decide +kernel
theorem dX2_errorPosition_16 : decode cX2_errorPosition 16 = .ok (.iload_n 2, 1) := by decide +kernel
theorem dX2_errorPosition_17 : decode cX2_errorPosition 17 = .ok (.bipush 120, 2) := by decide +kernel
theorem dX2_errorPosition_19 : decode cX2_errorPosition 19 = .ok (.if_icmp .ge 38, 3) := by decide +kernel
theorem dX2_errorPosition_22 : decode cX2_errorPosition 22 = .ok (.iload_n 1, 1) := by decide +kernel
theorem dX2_errorPosition_23 : decode cX2_errorPosition 23 = .ok (.aload_n 0, 1) := by decide +kernel
theorem dX2_errorPosition_24 : decode cX2_errorPosition 24 = .ok (.getfield 13, 3) := by decide +kernel
theorem dX2_errorPosition_27 : decode cX2_errorPosition 27 = .ok (.if_icmp .ge 30, 3) := by decide +kernel
theorem dX2_errorPosition_30 : decode cX2_errorPosition 30 = .ok (.aload_n 0, 1) := by decide +kernel
theorem dX2_errorPosition_31 : decode cX2_errorPosition 31 = .ok (.iload_n 1, 1) := by decide +kernel
theorem dX2_errorPosition_32 : decode cX2_errorPosition 32 = .ok (.invokevirtual 60, 3) := by decide +kernel
theorem dX2_errorPosition_35 : decode cX2_errorPosition 35 = .ok (.istore_n 3, 1) := by decide +kernel
theorem dX2_errorPosition_36 : decode cX2_errorPosition 36 = .ok (.iload_n 3, 1) := by decide +kernel
theorem dX2_errorPosition_37 : decode cX2_errorPosition 37 = .ok (.iconst (-1), 1) := by decide +kernel
theorem dX2_errorPosition_38 : decode cX2_errorPosition 38 = .ok (.if_icmp .eq 5, 3) := by decide +kernel
theorem dX2_errorPosition_41 : decode cX2_errorPosition 41 = .ok (.iload_n 3, 1) := by decide +kernel
theorem dX2_errorPosition_42 : decode cX2_errorPosition 42 = .ok (.ireturn, 1) := by decide +kernel
theorem dX2_errorPosition_43 : decode cX2_errorPosition 43 = .ok (.iload_n 1, 1) := by decide +kernel
theorem dX2_errorPosition_44 : decode cX2_errorPosition 44 = .ok (.aload_n 0, 1) := by decide +kernel
theorem dX2_errorPosition_45 : decode cX2_errorPosition 45 = .ok (.iload_n 1, 1) := by decide +kernel
theorem dX2_errorPosition_46 : decode cX2_errorPosition 46 = .ok (.invokevirtual 63, 3) := by decide +kernel
theorem dX2_errorPosition_49 : decode cX2_errorPosition 49 = .ok (.iadd, 1) := by decide +kernel
theorem dX2_errorPosition_50 : decode cX2_errorPosition 50 = .ok (.istore_n 1, 1) := by decide +kernel
theorem dX2_errorPosition_51 : decode cX2_errorPosition 51 = .ok (.iinc 2 1, 3) := by decide +kernel
theorem dX2_errorPosition_54 : decode cX2_errorPosition 54 = .ok (.goto (-38), 3) := by decide +kernel
theorem dX2_errorPosition_57 : decode cX2_errorPosition 57 = .ok (.iconst (-1), 1) := by decide +kernel
theorem dX2_errorPosition_58 : decode cX2_errorPosition 58 = .ok (.ireturn, 1) := by decide +kernel
theorem dX2_load_0 : decode cX2_load 0 = .ok (.aload_n 0, 1) := by decide +kernel
theorem dX2_load_1 : decode cX2_load 1 = .ok (.invokevirtual 66, 3) := by decide +kernel
theorem dX2_load_4 : decode cX2_load 4 = .ok (.iconst (-1), 1) := by decide +kernel
theorem dX2_load_5 : decode cX2_load 5 = .ok (.if_icmp .eq 13, 3) := by decide +kernel
theorem dX2_load_8 : decode cX2_load 8 = .ok (.new 51, 3) := by decide +kernel
theorem dX2_load_11 : decode cX2_load 11 = .ok (.dup, 1) := by decide +kernel
theorem dX2_load_12 : decode cX2_load 12 = .ok (.ldc 70, 2) := by decide +kernel
theorem dX2_load_14 : decode cX2_load 14 = .ok (.invokespecial 55, 3) := by decide +kernel
theorem dX2_load_17 : decode cX2_load 17 = .ok (.athrow, 1) := by decide +kernel
theorem dX2_load_18 : decode cX2_load 18 = .ok (.aload_n 0, 1) := by decide +kernel
theorem dX2_load_19 : decode cX2_load 19 = .ok (.getfield 20, 3) := by decide +kernel
theorem dX2_load_22 : decode cX2_load 22 = .ok (.invokevirtual 72, 3) := by decide +kernel
theorem dX2_load_25 : decode cX2_load 25 = .ok (.aload_n 0, 1) := by decide +kernel
theorem dX2_load_26 : decode cX2_load 26 = .ok (.invokevirtual 75, 3) := by decide +kernel
theorem dX2_load_29 : decode cX2_load 29 = .ok (.iconst 0, 1) := by decide +kernel
theorem dX2_load_30 : decode cX2_load 30 = .ok (.istore_n 1, 1) := by decide +kernel
theorem dX2_load_31 : decode cX2_load 31 = .ok (.iload_n 1, 1) := by decide +kernel
theorem dX2_load_32 : decode cX2_load 32 = .ok (.iconst 2, 1) := by decide +kernel
theorem dX2_load_33 : decode cX2_load 33 = .ok (.if_icmp .ge 16, 3) := by decide +kernel
theorem dX2_load_36 : decode cX2_load 36 = .ok (.aload_n 0, 1) := by decide +kernel
theorem dX2_load_37 : decode cX2_load 37 = .ok (.getfield 40, 3) := by decide +kernel
theorem dX2_load_40 : decode cX2_load 40 = .ok (.iload_n 1, 1) := by decide +kernel
theorem dX2_load_41 : decode cX2_load 41 = .ok (.iconst 0, 1) := by decide +kernel
theorem dX2_load_42 : decode cX2_load 42 = .ok (.bastore, 1) := by decide +kernel
theorem dX2_load_43 : decode cX2_load 43 = .ok (.iinc 1 1, 3) := by decide +kernel
theorem dX2_load_46 : decode cX2_load 46 = .ok (.goto (-15), 3) := by decide +kernel
theorem dX2_load_49 : decode cX2_load 49 = .ok (.iconst 0, 1) := by decide +kernel
theorem dX2_load_50 : decode cX2_load 50 = .ok (.istore_n 1, 1) := by decide +kernel
theorem dX2_load_51 : decode cX2_load 51 = .ok (.iconst 1, 1) := by decide +kernel
theorem dX2_load_52 : decode cX2_load 52 = .ok (.istore_n 2, 1) := by decide +kernel
theorem dX2_load_53 : decode cX2_load 53 = .ok (.iconst 0, 1) := by decide +kernel
theorem dX2_load_54 : decode cX2_load 54 = .ok (.istore_n 3, 1) := by decide +kernel
theorem dX2_load_55 : decode cX2_load 55 = .ok (.iload_n 3, 1) := by decide +kernel
theorem dX2_load_56 : decode cX2_load 56 = .ok (.bipush 120, 2) := by decide +kernel
theorem dX2_load_58 : decode cX2_load 58 = .ok (.if_icmp .ge 36, 3) := by decide +kernel
theorem dX2_load_61 : decode cX2_load 61 = .ok (.iload_n 2, 1) := by decide +kernel
theorem dX2_load_62 : decode cX2_load 62 = .ok (.aload_n 0, 1) := by decide +kernel
theorem dX2_load_63 : decode cX2_load 63 = .ok (.getfield 13, 3) := by decide +kernel
theorem dX2_load_66 : decode cX2_load 66 = .ok (.if_icmp .ge 28, 3) := by decide +kernel
theorem dX2_load_69 : decode cX2_load 69 = .ok (.aload_n 0, 1) := by decide +kernel
theorem dX2_load_70 : decode cX2_load 70 = .ok (.iload_n 2, 1) := by decide +kernel
theorem dX2_load_71 : decode cX2_load 71 = .ok (.invokevirtual 78, 3) := by decide +kernel
theorem dX2_load_74 : decode cX2_load 74 = .ok (.ifCond .ne 6, 3) := by decide +kernel
theorem dX2_load_77 : decode cX2_load 77 = .ok (.iinc 1 1, 3) := by decide +kernel
theorem dX2_load_80 : decode cX2_load 80 = .ok (.iload_n 2, 1) := by decide +kernel
theorem dX2_load_81 : decode cX2_load 81 = .ok (.aload_n 0, 1) := by decide +kernel
theorem dX2_load_82 : decode cX2_load 82 = .ok (.iload_n 2, 1) := by decide +kernel
theorem dX2_load_83 : decode cX2_load 83 = .ok (.invokevirtual 63, 3) := by decide +kernel
theorem dX2_load_86 : decode cX2_load 86 = .ok (.iadd, 1) := by decide +kernel
theorem dX2_load_87 : decode cX2_load 87 = .ok (.istore_n 2, 1) := by decide +kernel
theorem dX2_load_88 : decode cX2_load 88 = .ok (.iinc 3 1, 3) := by decide +kernel
theorem dX2_load_91 : decode cX2_load 91 = .ok (.goto (-36), 3) := by decide +kernel
theorem dX2_load_94 : decode cX2_load 94 = .ok (.iload_n 1, 1) := by decide +kernel
theorem dX2_load_95 : decode cX2_load 95 = .ok (.ireturn, 1) := by decide +kernel
theorem dX2_signAt_0 : decode cX2_signAt 0 = .ok (.iload_n 1, 1) := by decide +kernel
theorem dX2_signAt_1 : decode cX2_signAt 1 = .ok (.ifCond .lt 17, 3) := by decide +kernel
theorem dX2_signAt_4 : decode cX2_signAt 4 = .ok (.iload_n 1, 1) := by decide +kernel
theorem dX2_signAt_5 : decode cX2_signAt 5 = .ok (.aload_n 0, 1) := by decide +kernel
theorem dX2_signAt_6 : decode cX2_signAt 6 = .ok (.getfield 13, 3) := by decide +kernel
theorem dX2_signAt_9 : decode cX2_signAt 9 = .ok (.if_icmp .ge 9, 3) := by decide +kernel
theorem dX2_signAt_12 : decode cX2_signAt 12 = .ok (.iload_n 1, 1) := by decide +kernel
theorem dX2_signAt_13 : decode cX2_signAt 13 = .ok (.bipush 120, 2) := by decide +kernel
theorem dX2_signAt_15 : decode cX2_signAt 15 = .ok (.if_icmp .lt 5, 3) := by decide +kernel
theorem dX2_signAt_18 : decode cX2_signAt 18 = .ok (.iconst (-1), 1) := by decide +kernel
theorem dX2_signAt_19 : decode cX2_signAt 19 = .ok (.ireturn, 1) := by decide +kernel
theorem dX2_signAt_20 : decode cX2_signAt 20 = .ok (.aload_n 0, 1) := by decide +kernel
theorem dX2_signAt_21 : decode cX2_signAt 21 = .ok (.getfield 9, 3) := by decide +kernel
theorem dX2_signAt_24 : decode cX2_signAt 24 = .ok (.iload_n 1, 1) := by decide +kernel
theorem dX2_signAt_25 : decode cX2_signAt 25 = .ok (.caload, 1) := by decide +kernel
theorem dX2_signAt_26 : decode cX2_signAt 26 = .ok (.ireturn, 1) := by decide +kernel
theorem dX2_digitAt_0 : decode cX2_digitAt 0 = .ok (.aload_n 0, 1) := by decide +kernel
theorem dX2_digitAt_1 : decode cX2_digitAt 1 = .ok (.iload_n 1, 1) := by decide +kernel
theorem dX2_digitAt_2 : decode cX2_digitAt 2 = .ok (.invokevirtual 56, 3) := by decide +kernel
theorem dX2_digitAt_5 : decode cX2_digitAt 5 = .ok (.bipush 48, 2) := by decide +kernel
theorem dX2_digitAt_7 : decode cX2_digitAt 7 = .ok (.isub, 1) := by decide +kernel
theorem dX2_digitAt_8 : decode cX2_digitAt 8 = .ok (.ireturn, 1) := by decide +kernel
theorem dX2_twoDigitsAt_0 : decode cX2_twoDigitsAt 0 = .ok (.bipush 10, 2) := by decide +kernel
theorem dX2_twoDigitsAt_2 : decode cX2_twoDigitsAt 2 = .ok (.aload_n 0, 1) := by decide +kernel
theorem dX2_twoDigitsAt_3 : decode cX2_twoDigitsAt 3 = .ok (.iload_n 1, 1) := by decide +kernel
theorem dX2_twoDigitsAt_4 : decode cX2_twoDigitsAt 4 = .ok (.invokevirtual 82, 3) := by decide +kernel
theorem dX2_twoDigitsAt_7 : decode cX2_twoDigitsAt 7 = .ok (.imul, 1) := by decide +kernel
theorem dX2_twoDigitsAt_8 : decode cX2_twoDigitsAt 8 = .ok (.aload_n 0, 1) := by decide +kernel
theorem dX2_twoDigitsAt_9 : decode cX2_twoDigitsAt 9 = .ok (.iload_n 1, 1) := by decide +kernel
theorem dX2_twoDigitsAt_10 : decode cX2_twoDigitsAt 10 = .ok (.iconst 1, 1) := by decide +kernel
theorem dX2_twoDigitsAt_11 : decode cX2_twoDigitsAt 11 = .ok (.iadd, 1) := by decide +kernel
theorem dX2_twoDigitsAt_12 : decode cX2_twoDigitsAt 12 = .ok (.invokevirtual 82, 3) := by decide +kernel
theorem dX2_twoDigitsAt_15 : decode cX2_twoDigitsAt 15 = .ok (.iadd, 1) := by decide +kernel
theorem dX2_twoDigitsAt_16 : decode cX2_twoDigitsAt 16 = .ok (.ireturn, 1) := by decide +kernel
theorem dX2_wrongSignOf_0 : decode cX2_wrongSignOf 0 = .ok (.aload_n 0, 1) := by decide +kernel
theorem dX2_wrongSignOf_1 : decode cX2_wrongSignOf 1 = .ok (.iload_n 1, 1) := by decide +kernel
theorem dX2_wrongSignOf_2 : decode cX2_wrongSignOf 2 = .ok (.invokevirtual 56, 3) := by decide +kernel
theorem dX2_wrongSignOf_5 : decode cX2_wrongSignOf 5 = .ok (.istore_n 2, 1) := by decide +kernel
theorem dX2_wrongSignOf_6 : decode cX2_wrongSignOf 6 = .ok (.iload_n 2, 1) := by decide +kernel
theorem dX2_wrongSignOf_7 : decode cX2_wrongSignOf 7 = .ok (.invokestatic 85, 3) := by decide +kernel
theorem dX2_wrongSignOf_10 : decode cX2_wrongSignOf 10 = .ok (.istore_n 3, 1) := by decide +kernel
theorem dX2_wrongSignOf_11 : decode cX2_wrongSignOf 11 = .ok (.iload_n 3, 1) := by decide +kernel
theorem dX2_wrongSignOf_12 : decode cX2_wrongSignOf 12 = .ok (.ifCond .ne 5, 3) := by decide +kernel
theorem dX2_wrongSignOf_15 : decode cX2_wrongSignOf 15 = .ok (.iload_n 1, 1) := by decide +kernel
theorem dX2_wrongSignOf_16 : decode cX2_wrongSignOf 16 = .ok (.ireturn, 1) := by decide +kernel
theorem dX2_wrongSignOf_17 : decode cX2_wrongSignOf 17 = .ok (.iconst 1, 1) := by decide +kernel
theorem dX2_wrongSignOf_18 : decode cX2_wrongSignOf 18 = .ok (.istore 4, 2) := by decide +kernel
theorem dX2_wrongSignOf_20 : decode cX2_wrongSignOf 20 = .ok (.iload 4, 2) := by decide +kernel
theorem dX2_wrongSignOf_22 : decode cX2_wrongSignOf 22 = .ok (.iload_n 3, 1) := by decide +kernel
theorem dX2_wrongSignOf_23 : decode cX2_wrongSignOf 23 = .ok (.if_icmp .ge 41, 3) := by decide +kernel
theorem dX2_wrongSignOf_26 : decode cX2_wrongSignOf 26 = .ok (.iload_n 2, 1) := by decide +kernel
theorem dX2_wrongSignOf_27 : decode cX2_wrongSignOf 27 = .ok (.iload 4, 2) := by decide +kernel
theorem dX2_wrongSignOf_29 : decode cX2_wrongSignOf 29 = .ok (.aload_n 0, 1) := by decide +kernel
theorem dX2_wrongSignOf_30 : decode cX2_wrongSignOf 30 = .ok (.iload_n 1, 1) := by decide +kernel
theorem dX2_wrongSignOf_31 : decode cX2_wrongSignOf 31 = .ok (.iload 4, 2) := by decide +kernel
theorem dX2_wrongSignOf_33 : decode cX2_wrongSignOf 33 = .ok (.iadd, 1) := by decide +kernel
theorem dX2_wrongSignOf_34 : decode cX2_wrongSignOf 34 = .ok (.iconst 1, 1) := by decide +kernel
theorem dX2_wrongSignOf_35 : decode cX2_wrongSignOf 35 = .ok (.isub, 1) := by decide +kernel
theorem dX2_wrongSignOf_36 : decode cX2_wrongSignOf 36 = .ok (.invokevirtual 56, 3) := by decide +kernel
theorem dX2_wrongSignOf_39 : decode cX2_wrongSignOf 39 = .ok (.aload_n 0, 1) := by decide +kernel
theorem dX2_wrongSignOf_40 : decode cX2_wrongSignOf 40 = .ok (.iload_n 1, 1) := by decide +kernel
theorem dX2_wrongSignOf_41 : decode cX2_wrongSignOf 41 = .ok (.iload 4, 2) := by decide +kernel
theorem dX2_wrongSignOf_43 : decode cX2_wrongSignOf 43 = .ok (.iadd, 1) := by decide +kernel
theorem dX2_wrongSignOf_44 : decode cX2_wrongSignOf 44 = .ok (.invokevirtual 56, 3) := by decide +kernel
theorem dX2_wrongSignOf_47 : decode cX2_wrongSignOf 47 = .ok (.invokestatic 88, 3) := by decide +kernel
theorem dX2_wrongSignOf_50 : decode cX2_wrongSignOf 50 = .ok (.ifCond .ne 8, 3) := by decide +kernel
theorem dX2_wrongSignOf_53 : decode cX2_wrongSignOf 53 = .ok (.iload_n 1, 1) := by decide +kernel
theorem dX2_wrongSignOf_54 : decode cX2_wrongSignOf 54 = .ok (.iload 4, 2) := by decide +kernel
theorem dX2_wrongSignOf_56 : decode cX2_wrongSignOf 56 = .ok (.iadd, 1) := by decide +kernel
theorem dX2_wrongSignOf_57 : decode cX2_wrongSignOf 57 = .ok (.ireturn, 1) := by decide +kernel
theorem dX2_wrongSignOf_58 : decode cX2_wrongSignOf 58 = .ok (.iinc 4 1, 3) := by decide +kernel
theorem dX2_wrongSignOf_61 : decode cX2_wrongSignOf 61 = .ok (.goto (-41), 3) := by decide +kernel
theorem dX2_wrongSignOf_64 : decode cX2_wrongSignOf 64 = .ok (.iconst (-1), 1) := by decide +kernel
theorem dX2_wrongSignOf_65 : decode cX2_wrongSignOf 65 = .ok (.ireturn, 1) := by decide +kernel
theorem dX2_fixedLength_0 : decode cX2_fixedLength 0 = .ok (.iload_n 0, 1) := by decide +kernel
theorem dX2_fixedLength_1 : decode cX2_fixedLength 1 = .ok (.lookupswitch 59 #[(98, 53), (108, 51), (109, 53), (116, 55), (118, 57)], 51) := by decide +kernel
theorem dX2_fixedLength_52 : decode cX2_fixedLength 52 = .ok (.iconst 1, 1) := by decide +kernel
theorem dX2_fixedLength_53 : decode cX2_fixedLength 53 = .ok (.ireturn, 1) := by decide +kernel
theorem dX2_fixedLength_54 : decode cX2_fixedLength 54 = .ok (.iconst 2, 1) := by decide +kernel
theorem dX2_fixedLength_55 : decode cX2_fixedLength 55 = .ok (.ireturn, 1) := by decide +kernel
theorem dX2_fixedLength_56 : decode cX2_fixedLength 56 = .ok (.iconst 3, 1) := by decide +kernel
theorem dX2_fixedLength_57 : decode cX2_fixedLength 57 = .ok (.ireturn, 1) := by decide +kernel
theorem dX2_fixedLength_58 : decode cX2_fixedLength 58 = .ok (.iconst 4, 1) := by decide +kernel
theorem dX2_fixedLength_59 : decode cX2_fixedLength 59 = .ok (.ireturn, 1) := by decide +kernel
theorem dX2_fixedLength_60 : decode cX2_fixedLength 60 = .ok (.iconst 0, 1) := by decide +kernel
theorem dX2_fixedLength_61 : decode cX2_fixedLength 61 = .ok (.ireturn, 1) := by decide +kernel
theorem dX2_isAllowed_0 : decode cX2_isAllowed 0 = .ok (.iload_n 0, 1) := by decide +kernel
theorem dX2_isAllowed_1 : decode cX2_isAllowed 1 = .ok (.bipush 116, 2) := by decide +kernel
theorem dX2_isAllowed_3 : decode cX2_isAllowed 3 = .ok (.if_icmp .ne 25, 3) := by decide +kernel
theorem dX2_isAllowed_6 : decode cX2_isAllowed 6 = .ok (.iload_n 1, 1) := by decide +kernel
theorem dX2_isAllowed_7 : decode cX2_isAllowed 7 = .ok (.iconst 1, 1) := by decide +kernel
theorem dX2_isAllowed_8 : decode cX2_isAllowed 8 = .ok (.if_icmp .ne 14, 3) := by decide +kernel
theorem dX2_isAllowed_11 : decode cX2_isAllowed 11 = .ok (.iload_n 3, 1) := by decide +kernel
theorem dX2_isAllowed_12 : decode cX2_isAllowed 12 = .ok (.bipush 48, 2) := by decide +kernel
theorem dX2_isAllowed_14 : decode cX2_isAllowed 14 = .ok (.bipush 54, 2) := by decide +kernel
theorem dX2_isAllowed_16 : decode cX2_isAllowed 16 = .ok (.invokestatic 92, 3) := by decide +kernel
theorem dX2_isAllowed_19 : decode cX2_isAllowed 19 = .ok (.goto 8, 3) := by decide +kernel
theorem dX2_isAllowed_22 : decode cX2_isAllowed 22 = .ok (.iload_n 2, 1) := by decide +kernel
theorem dX2_isAllowed_23 : decode cX2_isAllowed 23 = .ok (.iload_n 3, 1) := by decide +kernel
theorem dX2_isAllowed_24 : decode cX2_isAllowed 24 = .ok (.invokestatic 96, 3) := by decide +kernel
theorem dX2_isAllowed_27 : decode cX2_isAllowed 27 = .ok (.ireturn, 1) := by decide +kernel
theorem dX2_isAllowed_28 : decode cX2_isAllowed 28 = .ok (.iload_n 1, 1) := by decide +kernel
theorem dX2_isAllowed_29 : decode cX2_isAllowed 29 = .ok (.iconst 1, 1) := by decide +kernel
theorem dX2_isAllowed_30 : decode cX2_isAllowed 30 = .ok (.if_icmp .ne 12, 3) := by decide +kernel
theorem dX2_isAllowed_33 : decode cX2_isAllowed 33 = .ok (.iload_n 3, 1) := by decide +kernel
theorem dX2_isAllowed_34 : decode cX2_isAllowed 34 = .ok (.bipush 48, 2) := by decide +kernel
theorem dX2_isAllowed_36 : decode cX2_isAllowed 36 = .ok (.bipush 50, 2) := by decide +kernel
theorem dX2_isAllowed_38 : decode cX2_isAllowed 38 = .ok (.invokestatic 92, 3) := by decide +kernel
theorem dX2_isAllowed_41 : decode cX2_isAllowed 41 = .ok (.ireturn, 1) := by decide +kernel
theorem dX2_isAllowed_42 : decode cX2_isAllowed 42 = .ok (.iload_n 1, 1) := by decide +kernel
theorem dX2_isAllowed_43 : decode cX2_isAllowed 43 = .ok (.iconst 2, 1) := by decide +kernel
theorem dX2_isAllowed_44 : decode cX2_isAllowed 44 = .ok (.if_icmp .ne 14, 3) := by decide +kernel
theorem dX2_isAllowed_47 : decode cX2_isAllowed 47 = .ok (.iload_n 3, 1) := by decide +kernel
theorem dX2_isAllowed_48 : decode cX2_isAllowed 48 = .ok (.bipush 48, 2) := by decide +kernel
theorem dX2_isAllowed_50 : decode cX2_isAllowed 50 = .ok (.bipush 49, 2) := by decide +kernel
theorem dX2_isAllowed_52 : decode cX2_isAllowed 52 = .ok (.invokestatic 92, 3) := by decide +kernel
theorem dX2_isAllowed_55 : decode cX2_isAllowed 55 = .ok (.goto 8, 3) := by decide +kernel
theorem dX2_isAllowed_58 : decode cX2_isAllowed 58 = .ok (.iload_n 2, 1) := by decide +kernel
theorem dX2_isAllowed_59 : decode cX2_isAllowed 59 = .ok (.iload_n 3, 1) := by decide +kernel
theorem dX2_isAllowed_60 : decode cX2_isAllowed 60 = .ok (.invokestatic 100, 3) := by decide +kernel
theorem dX2_isAllowed_63 : decode cX2_isAllowed 63 = .ok (.ireturn, 1) := by decide +kernel
theorem dX2_isLastDigitOfTicks_0 : decode cX2_isLastDigitOfTicks 0 = .ok (.iload_n 0, 1) := by decide +kernel
theorem dX2_isLastDigitOfTicks_1 : decode cX2_isLastDigitOfTicks 1 = .ok (.bipush 48, 2) := by decide +kernel
theorem dX2_isLastDigitOfTicks_3 : decode cX2_isLastDigitOfTicks 3 = .ok (.if_icmp .ne 12, 3) := by decide +kernel
theorem dX2_isLastDigitOfTicks_6 : decode cX2_isLastDigitOfTicks 6 = .ok (.iload_n 1, 1) := by decide +kernel
theorem dX2_isLastDigitOfTicks_7 : decode cX2_isLastDigitOfTicks 7 = .ok (.bipush 49, 2) := by decide +kernel
theorem dX2_isLastDigitOfTicks_9 : decode cX2_isLastDigitOfTicks 9 = .ok (.bipush 57, 2) := by decide +kernel
theorem dX2_isLastDigitOfTicks_11 : decode cX2_isLastDigitOfTicks 11 = .ok (.invokestatic 92, 3) := by decide +kernel
theorem dX2_isLastDigitOfTicks_14 : decode cX2_isLastDigitOfTicks 14 = .ok (.ireturn, 1) := by decide +kernel
theorem dX2_isLastDigitOfTicks_15 : decode cX2_isLastDigitOfTicks 15 = .ok (.iload_n 1, 1) := by decide +kernel
theorem dX2_isLastDigitOfTicks_16 : decode cX2_isLastDigitOfTicks 16 = .ok (.bipush 48, 2) := by decide +kernel
theorem dX2_isLastDigitOfTicks_18 : decode cX2_isLastDigitOfTicks 18 = .ok (.iload_n 0, 1) := by decide +kernel
theorem dX2_isLastDigitOfTicks_19 : decode cX2_isLastDigitOfTicks 19 = .ok (.bipush 54, 2) := by decide +kernel
theorem dX2_isLastDigitOfTicks_21 : decode cX2_isLastDigitOfTicks 21 = .ok (.if_icmp .ne 8, 3) := by decide +kernel
theorem dX2_isLastDigitOfTicks_24 : decode cX2_isLastDigitOfTicks 24 = .ok (.bipush 48, 2) := by decide +kernel
theorem dX2_isLastDigitOfTicks_26 : decode cX2_isLastDigitOfTicks 26 = .ok (.goto 5, 3) := by decide +kernel
theorem dX2_isLastDigitOfTicks_29 : decode cX2_isLastDigitOfTicks 29 = .ok (.bipush 57, 2) := by decide +kernel
theorem dX2_isLastDigitOfTicks_31 : decode cX2_isLastDigitOfTicks 31 = .ok (.invokestatic 92, 3) := by decide +kernel
theorem dX2_isLastDigitOfTicks_34 : decode cX2_isLastDigitOfTicks 34 = .ok (.ireturn, 1) := by decide +kernel
theorem dX2_isLastDigitOfLength_0 : decode cX2_isLastDigitOfLength 0 = .ok (.iload_n 0, 1) := by decide +kernel
theorem dX2_isLastDigitOfLength_1 : decode cX2_isLastDigitOfLength 1 = .ok (.bipush 48, 2) := by decide +kernel
theorem dX2_isLastDigitOfLength_3 : decode cX2_isLastDigitOfLength 3 = .ok (.if_icmp .ne 14, 3) := by decide +kernel
theorem dX2_isLastDigitOfLength_6 : decode cX2_isLastDigitOfLength 6 = .ok (.iload_n 1, 1) := by decide +kernel
theorem dX2_isLastDigitOfLength_7 : decode cX2_isLastDigitOfLength 7 = .ok (.bipush 50, 2) := by decide +kernel
theorem dX2_isLastDigitOfLength_9 : decode cX2_isLastDigitOfLength 9 = .ok (.bipush 57, 2) := by decide +kernel
theorem dX2_isLastDigitOfLength_11 : decode cX2_isLastDigitOfLength 11 = .ok (.invokestatic 92, 3) := by decide +kernel
theorem dX2_isLastDigitOfLength_14 : decode cX2_isLastDigitOfLength 14 = .ok (.goto 11, 3) := by decide +kernel
theorem dX2_isLastDigitOfLength_17 : decode cX2_isLastDigitOfLength 17 = .ok (.iload_n 1, 1) := by decide +kernel
theorem dX2_isLastDigitOfLength_18 : decode cX2_isLastDigitOfLength 18 = .ok (.bipush 48, 2) := by decide +kernel
theorem dX2_isLastDigitOfLength_20 : decode cX2_isLastDigitOfLength 20 = .ok (.bipush 50, 2) := by decide +kernel
theorem dX2_isLastDigitOfLength_22 : decode cX2_isLastDigitOfLength 22 = .ok (.invokestatic 92, 3) := by decide +kernel
theorem dX2_isLastDigitOfLength_25 : decode cX2_isLastDigitOfLength 25 = .ok (.ireturn, 1) := by decide +kernel
theorem dX2_isBetween_0 : decode cX2_isBetween 0 = .ok (.iload_n 0, 1) := by decide +kernel
theorem dX2_isBetween_1 : decode cX2_isBetween 1 = .ok (.iload_n 1, 1) := by decide +kernel
theorem dX2_isBetween_2 : decode cX2_isBetween 2 = .ok (.if_icmp .lt 12, 3) := by decide +kernel
theorem dX2_isBetween_5 : decode cX2_isBetween 5 = .ok (.iload_n 0, 1) := by decide +kernel
theorem dX2_isBetween_6 : decode cX2_isBetween 6 = .ok (.iload_n 2, 1) := by decide +kernel
theorem dX2_isBetween_7 : decode cX2_isBetween 7 = .ok (.if_icmp .gt 7, 3) := by decide +kernel
theorem dX2_isBetween_10 : decode cX2_isBetween 10 = .ok (.iconst 1, 1) := by decide +kernel
theorem dX2_isBetween_11 : decode cX2_isBetween 11 = .ok (.goto 4, 3) := by decide +kernel
theorem dX2_isBetween_14 : decode cX2_isBetween 14 = .ok (.iconst 0, 1) := by decide +kernel
theorem dX2_isBetween_15 : decode cX2_isBetween 15 = .ok (.ireturn, 1) := by decide +kernel
theorem dX2_commandLength_0 : decode cX2_commandLength 0 = .ok (.aload_n 0, 1) := by decide +kernel
theorem dX2_commandLength_1 : decode cX2_commandLength 1 = .ok (.iload_n 1, 1) := by decide +kernel
theorem dX2_commandLength_2 : decode cX2_commandLength 2 = .ok (.invokevirtual 56, 3) := by decide +kernel
theorem dX2_commandLength_5 : decode cX2_commandLength 5 = .ok (.invokestatic 85, 3) := by decide +kernel
theorem dX2_commandLength_8 : decode cX2_commandLength 8 = .ok (.istore_n 2, 1) := by decide +kernel
theorem dX2_commandLength_9 : decode cX2_commandLength 9 = .ok (.aload_n 0, 1) := by decide +kernel
theorem dX2_commandLength_10 : decode cX2_commandLength 10 = .ok (.iload_n 1, 1) := by decide +kernel
theorem dX2_commandLength_11 : decode cX2_commandLength 11 = .ok (.invokevirtual 56, 3) := by decide +kernel
theorem dX2_commandLength_14 : decode cX2_commandLength 14 = .ok (.bipush 118, 2) := by decide +kernel
theorem dX2_commandLength_16 : decode cX2_commandLength 16 = .ok (.if_icmp .eq 5, 3) := by decide +kernel
theorem dX2_commandLength_19 : decode cX2_commandLength 19 = .ok (.iload_n 2, 1) := by decide +kernel
theorem dX2_commandLength_20 : decode cX2_commandLength 20 = .ok (.ireturn, 1) := by decide +kernel
theorem dX2_commandLength_21 : decode cX2_commandLength 21 = .ok (.aload_n 0, 1) := by decide +kernel
theorem dX2_commandLength_22 : decode cX2_commandLength 22 = .ok (.iload_n 1, 1) := by decide +kernel
theorem dX2_commandLength_23 : decode cX2_commandLength 23 = .ok (.iload_n 2, 1) := by decide +kernel
theorem dX2_commandLength_24 : decode cX2_commandLength 24 = .ok (.iadd, 1) := by decide +kernel
theorem dX2_commandLength_25 : decode cX2_commandLength 25 = .ok (.invokevirtual 56, 3) := by decide +kernel
theorem dX2_commandLength_28 : decode cX2_commandLength 28 = .ok (.bipush 120, 2) := by decide +kernel
theorem dX2_commandLength_30 : decode cX2_commandLength 30 = .ok (.if_icmp .ne 6, 3) := by decide +kernel
theorem dX2_commandLength_33 : decode cX2_commandLength 33 = .ok (.iinc 2 1, 3) := by decide +kernel
theorem dX2_commandLength_36 : decode cX2_commandLength 36 = .ok (.aload_n 0, 1) := by decide +kernel
theorem dX2_commandLength_37 : decode cX2_commandLength 37 = .ok (.iload_n 1, 1) := by decide +kernel
theorem dX2_commandLength_38 : decode cX2_commandLength 38 = .ok (.iload_n 2, 1) := by decide +kernel
theorem dX2_commandLength_39 : decode cX2_commandLength 39 = .ok (.iadd, 1) := by decide +kernel
theorem dX2_commandLength_40 : decode cX2_commandLength 40 = .ok (.invokevirtual 56, 3) := by decide +kernel
theorem dX2_commandLength_43 : decode cX2_commandLength 43 = .ok (.bipush 102, 2) := by decide +kernel
theorem dX2_commandLength_45 : decode cX2_commandLength 45 = .ok (.if_icmp .ne 6, 3) := by decide +kernel
theorem dX2_commandLength_48 : decode cX2_commandLength 48 = .ok (.iinc 2 1, 3) := by decide +kernel
theorem dX2_commandLength_51 : decode cX2_commandLength 51 = .ok (.iload_n 2, 1) := by decide +kernel
theorem dX2_commandLength_52 : decode cX2_commandLength 52 = .ok (.ireturn, 1) := by decide +kernel
theorem dX2_doCommand_0 : decode cX2_doCommand 0 = .ok (.aload_n 0, 1) := by decide +kernel
theorem dX2_doCommand_1 : decode cX2_doCommand 1 = .ok (.iload_n 1, 1) := by decide +kernel
theorem dX2_doCommand_2 : decode cX2_doCommand 2 = .ok (.invokevirtual 56, 3) := by decide +kernel
theorem dX2_doCommand_5 : decode cX2_doCommand 5 = .ok (.lookupswitch 111 #[(98, 65), (108, 51), (109, 81), (116, 96), (118, 59)], 51) := by decide +kernel
theorem dX2_doCommand_56 : decode cX2_doCommand 56 = .ok (.aload_n 0, 1) := by decide +kernel
theorem dX2_doCommand_57 : decode cX2_doCommand 57 = .ok (.getfield 20, 3) := by decide +kernel
theorem dX2_doCommand_60 : decode cX2_doCommand 60 = .ok (.invokevirtual 103, 3) := by decide +kernel
theorem dX2_doCommand_63 : decode cX2_doCommand 63 = .ok (.ireturn, 1) := by decide +kernel
theorem dX2_doCommand_64 : decode cX2_doCommand 64 = .ok (.aload_n 0, 1) := by decide +kernel
theorem dX2_doCommand_65 : decode cX2_doCommand 65 = .ok (.iload_n 1, 1) := by decide +kernel
theorem dX2_doCommand_66 : decode cX2_doCommand 66 = .ok (.invokevirtual 107, 3) := by decide +kernel
theorem dX2_doCommand_69 : decode cX2_doCommand 69 = .ok (.ireturn, 1) := by decide +kernel
theorem dX2_doCommand_70 : decode cX2_doCommand 70 = .ok (.aload_n 0, 1) := by decide +kernel
theorem dX2_doCommand_71 : decode cX2_doCommand 71 = .ok (.getfield 20, 3) := by decide +kernel
theorem dX2_doCommand_74 : decode cX2_doCommand 74 = .ok (.aload_n 0, 1) := by decide +kernel
theorem dX2_doCommand_75 : decode cX2_doCommand 75 = .ok (.iload_n 1, 1) := by decide +kernel
theorem dX2_doCommand_76 : decode cX2_doCommand 76 = .ok (.iconst 1, 1) := by decide +kernel
theorem dX2_doCommand_77 : decode cX2_doCommand 77 = .ok (.iadd, 1) := by decide +kernel
theorem dX2_doCommand_78 : decode cX2_doCommand 78 = .ok (.invokevirtual 82, 3) := by decide +kernel
theorem dX2_doCommand_81 : decode cX2_doCommand 81 = .ok (.iconst 1, 1) := by decide +kernel
theorem dX2_doCommand_82 : decode cX2_doCommand 82 = .ok (.invokevirtual 110, 3) := by decide +kernel
theorem dX2_doCommand_85 : decode cX2_doCommand 85 = .ok (.ireturn, 1) := by decide +kernel
theorem dX2_doCommand_86 : decode cX2_doCommand 86 = .ok (.aload_n 0, 1) := by decide +kernel
theorem dX2_doCommand_87 : decode cX2_doCommand 87 = .ok (.getfield 20, 3) := by decide +kernel
theorem dX2_doCommand_90 : decode cX2_doCommand 90 = .ok (.aload_n 0, 1) := by decide +kernel
theorem dX2_doCommand_91 : decode cX2_doCommand 91 = .ok (.iload_n 1, 1) := by decide +kernel
theorem dX2_doCommand_92 : decode cX2_doCommand 92 = .ok (.iconst 1, 1) := by decide +kernel
theorem dX2_doCommand_93 : decode cX2_doCommand 93 = .ok (.iadd, 1) := by decide +kernel
theorem dX2_doCommand_94 : decode cX2_doCommand 94 = .ok (.invokevirtual 82, 3) := by decide +kernel
theorem dX2_doCommand_97 : decode cX2_doCommand 97 = .ok (.invokevirtual 114, 3) := by decide +kernel
theorem dX2_doCommand_100 : decode cX2_doCommand 100 = .ok (.ireturn, 1) := by decide +kernel
theorem dX2_doCommand_101 : decode cX2_doCommand 101 = .ok (.aload_n 0, 1) := by decide +kernel
theorem dX2_doCommand_102 : decode cX2_doCommand 102 = .ok (.getfield 20, 3) := by decide +kernel
theorem dX2_doCommand_105 : decode cX2_doCommand 105 = .ok (.aload_n 0, 1) := by decide +kernel
theorem dX2_doCommand_106 : decode cX2_doCommand 106 = .ok (.iload_n 1, 1) := by decide +kernel
theorem dX2_doCommand_107 : decode cX2_doCommand 107 = .ok (.iconst 1, 1) := by decide +kernel
theorem dX2_doCommand_108 : decode cX2_doCommand 108 = .ok (.iadd, 1) := by decide +kernel
theorem dX2_doCommand_109 : decode cX2_doCommand 109 = .ok (.invokevirtual 117, 3) := by decide +kernel
theorem dX2_doCommand_112 : decode cX2_doCommand 112 = .ok (.invokevirtual 120, 3) := by decide +kernel
theorem dX2_doCommand_115 : decode cX2_doCommand 115 = .ok (.ireturn, 1) := by decide +kernel
theorem dX2_doCommand_116 : decode cX2_doCommand 116 = .ok (.iconst 0, 1) := by decide +kernel
theorem dX2_doCommand_117 : decode cX2_doCommand 117 = .ok (.ireturn, 1) := by decide +kernel
theorem dX2_doArrival_0 : decode cX2_doArrival 0 = .ok (.aload_n 0, 1) := by decide +kernel
theorem dX2_doArrival_1 : decode cX2_doArrival 1 = .ok (.iload_n 1, 1) := by decide +kernel
theorem dX2_doArrival_2 : decode cX2_doArrival 2 = .ok (.iconst 4, 1) := by decide +kernel
theorem dX2_doArrival_3 : decode cX2_doArrival 3 = .ok (.iadd, 1) := by decide +kernel
theorem dX2_doArrival_4 : decode cX2_doArrival 4 = .ok (.invokevirtual 56, 3) := by decide +kernel
theorem dX2_doArrival_7 : decode cX2_doArrival 7 = .ok (.bipush 120, 2) := by decide +kernel
theorem dX2_doArrival_9 : decode cX2_doArrival 9 = .ok (.if_icmp .ne 7, 3) := by decide +kernel
theorem dX2_doArrival_12 : decode cX2_doArrival 12 = .ok (.iconst 1, 1) := by decide +kernel
theorem dX2_doArrival_13 : decode cX2_doArrival 13 = .ok (.goto 4, 3) := by decide +kernel
theorem dX2_doArrival_16 : decode cX2_doArrival 16 = .ok (.iconst 0, 1) := by decide +kernel
theorem dX2_doArrival_17 : decode cX2_doArrival 17 = .ok (.istore_n 2, 1) := by decide +kernel
theorem dX2_doArrival_18 : decode cX2_doArrival 18 = .ok (.aload_n 0, 1) := by decide +kernel
theorem dX2_doArrival_19 : decode cX2_doArrival 19 = .ok (.iload_n 2, 1) := by decide +kernel
theorem dX2_doArrival_20 : decode cX2_doArrival 20 = .ok (.ifCond .eq 9, 3) := by decide +kernel
theorem dX2_doArrival_23 : decode cX2_doArrival 23 = .ok (.iload_n 1, 1) := by decide +kernel
theorem dX2_doArrival_24 : decode cX2_doArrival 24 = .ok (.iconst 5, 1) := by decide +kernel
theorem dX2_doArrival_25 : decode cX2_doArrival 25 = .ok (.iadd, 1) := by decide +kernel
theorem dX2_doArrival_26 : decode cX2_doArrival 26 = .ok (.goto 6, 3) := by decide +kernel
theorem dX2_doArrival_29 : decode cX2_doArrival 29 = .ok (.iload_n 1, 1) := by decide +kernel
theorem dX2_doArrival_30 : decode cX2_doArrival 30 = .ok (.iconst 4, 1) := by decide +kernel
theorem dX2_doArrival_31 : decode cX2_doArrival 31 = .ok (.iadd, 1) := by decide +kernel
theorem dX2_doArrival_32 : decode cX2_doArrival 32 = .ok (.invokevirtual 56, 3) := by decide +kernel
theorem dX2_doArrival_35 : decode cX2_doArrival 35 = .ok (.bipush 102, 2) := by decide +kernel
theorem dX2_doArrival_37 : decode cX2_doArrival 37 = .ok (.if_icmp .ne 7, 3) := by decide +kernel
theorem dX2_doArrival_40 : decode cX2_doArrival 40 = .ok (.iconst 1, 1) := by decide +kernel
theorem dX2_doArrival_41 : decode cX2_doArrival 41 = .ok (.goto 4, 3) := by decide +kernel
theorem dX2_doArrival_44 : decode cX2_doArrival 44 = .ok (.iconst 0, 1) := by decide +kernel
theorem dX2_doArrival_45 : decode cX2_doArrival 45 = .ok (.istore_n 3, 1) := by decide +kernel
theorem dX2_doArrival_46 : decode cX2_doArrival 46 = .ok (.aload_n 0, 1) := by decide +kernel
theorem dX2_doArrival_47 : decode cX2_doArrival 47 = .ok (.getfield 20, 3) := by decide +kernel
theorem dX2_doArrival_50 : decode cX2_doArrival 50 = .ok (.aload_n 0, 1) := by decide +kernel
theorem dX2_doArrival_51 : decode cX2_doArrival 51 = .ok (.iload_n 1, 1) := by decide +kernel
theorem dX2_doArrival_52 : decode cX2_doArrival 52 = .ok (.iconst 1, 1) := by decide +kernel
theorem dX2_doArrival_53 : decode cX2_doArrival 53 = .ok (.iadd, 1) := by decide +kernel
theorem dX2_doArrival_54 : decode cX2_doArrival 54 = .ok (.invokevirtual 82, 3) := by decide +kernel
theorem dX2_doArrival_57 : decode cX2_doArrival 57 = .ok (.aload_n 0, 1) := by decide +kernel
theorem dX2_doArrival_58 : decode cX2_doArrival 58 = .ok (.iload_n 1, 1) := by decide +kernel
theorem dX2_doArrival_59 : decode cX2_doArrival 59 = .ok (.iconst 2, 1) := by decide +kernel
theorem dX2_doArrival_60 : decode cX2_doArrival 60 = .ok (.iadd, 1) := by decide +kernel
theorem dX2_doArrival_61 : decode cX2_doArrival 61 = .ok (.invokevirtual 117, 3) := by decide +kernel
theorem dX2_doArrival_64 : decode cX2_doArrival 64 = .ok (.iload_n 2, 1) := by decide +kernel
theorem dX2_doArrival_65 : decode cX2_doArrival 65 = .ok (.iload_n 3, 1) := by decide +kernel
theorem dX2_doArrival_66 : decode cX2_doArrival 66 = .ok (.invokevirtual 123, 3) := by decide +kernel
theorem dX2_doArrival_69 : decode cX2_doArrival 69 = .ok (.ireturn, 1) := by decide +kernel
theorem dX2_about_0 : decode cX2_about 0 = .ok (.iload_n 1, 1) := by decide +kernel
theorem dX2_about_1 : decode cX2_about 1 = .ok (.ifCond .lt 9, 3) := by decide +kernel
theorem dX2_about_4 : decode cX2_about 4 = .ok (.iload_n 1, 1) := by decide +kernel
theorem dX2_about_5 : decode cX2_about 5 = .ok (.bipush 9, 2) := by decide +kernel
theorem dX2_about_7 : decode cX2_about 7 = .ok (.if_icmp .le 13, 3) := by decide +kernel
theorem dX2_about_10 : decode cX2_about 10 = .ok (.new 44, 3) := by decide +kernel
theorem dX2_about_13 : decode cX2_about 13 = .ok (.dup, 1) := by decide +kernel
theorem dX2_about_14 : decode cX2_about 14 = .ok (.ldc 127, 2) := by decide +kernel
theorem dX2_about_16 : decode cX2_about 16 = .ok (.invokespecial 48, 3) := by decide +kernel
theorem dX2_about_19 : decode cX2_about 19 = .ok (.athrow, 1) := by decide +kernel
theorem dX2_about_20 : decode cX2_about 20 = .ok (.iload_n 1, 1) := by decide +kernel
theorem dX2_about_21 : decode cX2_about 21 = .ok (.ifCond .ne 11, 3) := by decide +kernel
theorem dX2_about_24 : decode cX2_about 24 = .ok (.aload_n 0, 1) := by decide +kernel
theorem dX2_about_25 : decode cX2_about 25 = .ok (.getfield 20, 3) := by decide +kernel
theorem dX2_about_28 : decode cX2_about 28 = .ok (.getfield 129, 3) := by decide +kernel
theorem dX2_about_31 : decode cX2_about 31 = .ok (.ireturn, 1) := by decide +kernel
theorem dX2_about_32 : decode cX2_about 32 = .ok (.iload_n 1, 1) := by decide +kernel
theorem dX2_about_33 : decode cX2_about 33 = .ok (.iconst 1, 1) := by decide +kernel
theorem dX2_about_34 : decode cX2_about 34 = .ok (.if_icmp .ne 13, 3) := by decide +kernel
theorem dX2_about_37 : decode cX2_about 37 = .ok (.aload_n 0, 1) := by decide +kernel
theorem dX2_about_38 : decode cX2_about 38 = .ok (.getfield 20, 3) := by decide +kernel
theorem dX2_about_41 : decode cX2_about 41 = .ok (.getfield 132, 3) := by decide +kernel
theorem dX2_about_44 : decode cX2_about 44 = .ok (.goto 11, 3) := by decide +kernel
theorem dX2_about_47 : decode cX2_about 47 = .ok (.aload_n 0, 1) := by decide +kernel
theorem dX2_about_48 : decode cX2_about 48 = .ok (.getfield 20, 3) := by decide +kernel
theorem dX2_about_51 : decode cX2_about 51 = .ok (.iload_n 1, 1) := by decide +kernel
theorem dX2_about_52 : decode cX2_about 52 = .ok (.invokevirtual 135, 3) := by decide +kernel
theorem dX2_about_55 : decode cX2_about 55 = .ok (.ireturn, 1) := by decide +kernel
theorem dX2_laneOf_0 : decode cX2_laneOf 0 = .ok (.aload_n 0, 1) := by decide +kernel
theorem dX2_laneOf_1 : decode cX2_laneOf 1 = .ok (.iload_n 1, 1) := by decide +kernel
theorem dX2_laneOf_2 : decode cX2_laneOf 2 = .ok (.invokevirtual 138, 3) := by decide +kernel
theorem dX2_laneOf_5 : decode cX2_laneOf 5 = .ok (.iload_n 2, 1) := by decide +kernel
theorem dX2_laneOf_6 : decode cX2_laneOf 6 = .ok (.ifCond .lt 9, 3) := by decide +kernel
theorem dX2_laneOf_9 : decode cX2_laneOf 9 = .ok (.iload_n 2, 1) := by decide +kernel
theorem dX2_laneOf_10 : decode cX2_laneOf 10 = .ok (.bipush 7, 2) := by decide +kernel
theorem dX2_laneOf_12 : decode cX2_laneOf 12 = .ok (.if_icmp .le 13, 3) := by decide +kernel
theorem dX2_laneOf_15 : decode cX2_laneOf 15 = .ok (.new 44, 3) := by decide +kernel
theorem dX2_laneOf_18 : decode cX2_laneOf 18 = .ok (.dup, 1) := by decide +kernel
theorem dX2_laneOf_19 : decode cX2_laneOf 19 = .ok (.ldc 142, 2) := by decide +kernel
theorem dX2_laneOf_21 : decode cX2_laneOf 21 = .ok (.invokespecial 48, 3) := by decide +kernel
theorem dX2_laneOf_24 : decode cX2_laneOf 24 = .ok (.athrow, 1) := by decide +kernel
theorem dX2_laneOf_25 : decode cX2_laneOf 25 = .ok (.aload_n 0, 1) := by decide +kernel
theorem dX2_laneOf_26 : decode cX2_laneOf 26 = .ok (.getfield 20, 3) := by decide +kernel
theorem dX2_laneOf_29 : decode cX2_laneOf 29 = .ok (.getfield 144, 3) := by decide +kernel
theorem dX2_laneOf_32 : decode cX2_laneOf 32 = .ok (.iload_n 1, 1) := by decide +kernel
theorem dX2_laneOf_33 : decode cX2_laneOf 33 = .ok (.aaload, 1) := by decide +kernel
theorem dX2_laneOf_34 : decode cX2_laneOf 34 = .ok (.iload_n 2, 1) := by decide +kernel
theorem dX2_laneOf_35 : decode cX2_laneOf 35 = .ok (.invokevirtual 148, 3) := by decide +kernel
theorem dX2_laneOf_38 : decode cX2_laneOf 38 = .ok (.ireturn, 1) := by decide +kernel
theorem dX2_vehicle_0 : decode cX2_vehicle 0 = .ok (.aload_n 0, 1) := by decide +kernel
theorem dX2_vehicle_1 : decode cX2_vehicle 1 = .ok (.iload_n 1, 1) := by decide +kernel
theorem dX2_vehicle_2 : decode cX2_vehicle 2 = .ok (.iload_n 2, 1) := by decide +kernel
theorem dX2_vehicle_3 : decode cX2_vehicle 3 = .ok (.invokevirtual 153, 3) := by decide +kernel
theorem dX2_vehicle_6 : decode cX2_vehicle 6 = .ok (.iload_n 3, 1) := by decide +kernel
theorem dX2_vehicle_7 : decode cX2_vehicle 7 = .ok (.ifCond .lt 8, 3) := by decide +kernel
theorem dX2_vehicle_10 : decode cX2_vehicle 10 = .ok (.iload_n 3, 1) := by decide +kernel
theorem dX2_vehicle_11 : decode cX2_vehicle 11 = .ok (.iconst 4, 1) := by decide +kernel
theorem dX2_vehicle_12 : decode cX2_vehicle 12 = .ok (.if_icmp .le 13, 3) := by decide +kernel
theorem dX2_vehicle_15 : decode cX2_vehicle 15 = .ok (.new 44, 3) := by decide +kernel
theorem dX2_vehicle_18 : decode cX2_vehicle 18 = .ok (.dup, 1) := by decide +kernel
theorem dX2_vehicle_19 : decode cX2_vehicle 19 = .ok (.ldc 157, 2) := by decide +kernel
theorem dX2_vehicle_21 : decode cX2_vehicle 21 = .ok (.invokespecial 48, 3) := by decide +kernel
theorem dX2_vehicle_24 : decode cX2_vehicle 24 = .ok (.athrow, 1) := by decide +kernel
theorem dX2_vehicle_25 : decode cX2_vehicle 25 = .ok (.aload_n 0, 1) := by decide +kernel
theorem dX2_vehicle_26 : decode cX2_vehicle 26 = .ok (.getfield 20, 3) := by decide +kernel
theorem dX2_vehicle_29 : decode cX2_vehicle 29 = .ok (.getfield 144, 3) := by decide +kernel
theorem dX2_vehicle_32 : decode cX2_vehicle 32 = .ok (.iload_n 1, 1) := by decide +kernel
theorem dX2_vehicle_33 : decode cX2_vehicle 33 = .ok (.aaload, 1) := by decide +kernel
theorem dX2_vehicle_34 : decode cX2_vehicle 34 = .ok (.iload_n 2, 1) := by decide +kernel
theorem dX2_vehicle_35 : decode cX2_vehicle 35 = .ok (.iload_n 3, 1) := by decide +kernel
theorem dX2_vehicle_36 : decode cX2_vehicle 36 = .ok (.invokevirtual 159, 3) := by decide +kernel
theorem dX2_vehicle_39 : decode cX2_vehicle 39 = .ok (.ireturn, 1) := by decide +kernel
theorem dX2_why_0 : decode cX2_why 0 = .ok (.aload_n 0, 1) := by decide +kernel
theorem dX2_why_1 : decode cX2_why 1 = .ok (.iload_n 1, 1) := by decide +kernel
theorem dX2_why_2 : decode cX2_why 2 = .ok (.invokevirtual 138, 3) := by decide +kernel
theorem dX2_why_5 : decode cX2_why 5 = .ok (.aload_n 0, 1) := by decide +kernel
theorem dX2_why_6 : decode cX2_why 6 = .ok (.getfield 20, 3) := by decide +kernel
theorem dX2_why_9 : decode cX2_why 9 = .ok (.getfield 144, 3) := by decide +kernel
theorem dX2_why_12 : decode cX2_why 12 = .ok (.iload_n 1, 1) := by decide +kernel
theorem dX2_why_13 : decode cX2_why 13 = .ok (.aaload, 1) := by decide +kernel
theorem dX2_why_14 : decode cX2_why 14 = .ok (.invokevirtual 163, 3) := by decide +kernel
theorem dX2_why_17 : decode cX2_why 17 = .ok (.ireturn, 1) := by decide +kernel
theorem dX2_setting_0 : decode cX2_setting 0 = .ok (.iload_n 1, 1) := by decide +kernel
theorem dX2_setting_1 : decode cX2_setting 1 = .ok (.ifCond .lt 8, 3) := by decide +kernel
theorem dX2_setting_4 : decode cX2_setting 4 = .ok (.iload_n 1, 1) := by decide +kernel
theorem dX2_setting_5 : decode cX2_setting 5 = .ok (.iconst 3, 1) := by decide +kernel
theorem dX2_setting_6 : decode cX2_setting 6 = .ok (.if_icmp .lt 13, 3) := by decide +kernel
theorem dX2_setting_9 : decode cX2_setting 9 = .ok (.new 44, 3) := by decide +kernel
theorem dX2_setting_12 : decode cX2_setting 12 = .ok (.dup, 1) := by decide +kernel
theorem dX2_setting_13 : decode cX2_setting 13 = .ok (.ldc 166, 2) := by decide +kernel
theorem dX2_setting_15 : decode cX2_setting 15 = .ok (.invokespecial 48, 3) := by decide +kernel
theorem dX2_setting_18 : decode cX2_setting 18 = .ok (.athrow, 1) := by decide +kernel
theorem dX2_setting_19 : decode cX2_setting 19 = .ok (.aload_n 0, 1) := by decide +kernel
theorem dX2_setting_20 : decode cX2_setting 20 = .ok (.getfield 20, 3) := by decide +kernel
theorem dX2_setting_23 : decode cX2_setting 23 = .ok (.getfield 168, 3) := by decide +kernel
theorem dX2_setting_26 : decode cX2_setting 26 = .ok (.iload_n 1, 1) := by decide +kernel
theorem dX2_setting_27 : decode cX2_setting 27 = .ok (.iaload, 1) := by decide +kernel
theorem dX2_setting_28 : decode cX2_setting 28 = .ok (.ireturn, 1) := by decide +kernel
theorem dX2_checkLane_0 : decode cX2_checkLane 0 = .ok (.aload_n 0, 1) := by decide +kernel
theorem dX2_checkLane_1 : decode cX2_checkLane 1 = .ok (.getfield 20, 3) := by decide +kernel
theorem dX2_checkLane_4 : decode cX2_checkLane 4 = .ok (.iload_n 1, 1) := by decide +kernel
theorem dX2_checkLane_5 : decode cX2_checkLane 5 = .ok (.invokevirtual 172, 3) := by decide +kernel
theorem dX2_checkLane_8 : decode cX2_checkLane 8 = .ok (.ifCond .ne 13, 3) := by decide +kernel
theorem dX2_checkLane_11 : decode cX2_checkLane 11 = .ok (.new 175, 3) := by decide +kernel
theorem dX2_checkLane_14 : decode cX2_checkLane 14 = .ok (.dup, 1) := by decide +kernel
theorem dX2_checkLane_15 : decode cX2_checkLane 15 = .ok (.ldc 177, 2) := by decide +kernel
theorem dX2_checkLane_17 : decode cX2_checkLane 17 = .ok (.invokespecial 179, 3) := by decide +kernel
theorem dX2_checkLane_20 : decode cX2_checkLane 20 = .ok (.athrow, 1) := by decide +kernel
theorem dX2_checkLane_21 : decode cX2_checkLane 21 = .ok (.return_, 1) := by decide +kernel
theorem dX2_checkVehicle_0 : decode cX2_checkVehicle 0 = .ok (.aload_n 0, 1) := by decide +kernel
theorem dX2_checkVehicle_1 : decode cX2_checkVehicle 1 = .ok (.iload_n 1, 1) := by decide +kernel
theorem dX2_checkVehicle_2 : decode cX2_checkVehicle 2 = .ok (.invokevirtual 138, 3) := by decide +kernel
theorem dX2_checkVehicle_5 : decode cX2_checkVehicle 5 = .ok (.aload_n 0, 1) := by decide +kernel
theorem dX2_checkVehicle_6 : decode cX2_checkVehicle 6 = .ok (.getfield 20, 3) := by decide +kernel
theorem dX2_checkVehicle_9 : decode cX2_checkVehicle 9 = .ok (.getfield 144, 3) := by decide +kernel
theorem dX2_checkVehicle_12 : decode cX2_checkVehicle 12 = .ok (.iload_n 1, 1) := by decide +kernel
theorem dX2_checkVehicle_13 : decode cX2_checkVehicle 13 = .ok (.aaload, 1) := by decide +kernel
theorem dX2_checkVehicle_14 : decode cX2_checkVehicle 14 = .ok (.iload_n 2, 1) := by decide +kernel
theorem dX2_checkVehicle_15 : decode cX2_checkVehicle 15 = .ok (.invokevirtual 180, 3) := by decide +kernel
theorem dX2_checkVehicle_18 : decode cX2_checkVehicle 18 = .ok (.ifCond .ne 13, 3) := by decide +kernel
theorem dX2_checkVehicle_21 : decode cX2_checkVehicle 21 = .ok (.new 175, 3) := by decide +kernel
theorem dX2_checkVehicle_24 : decode cX2_checkVehicle 24 = .ok (.dup, 1) := by decide +kernel
theorem dX2_checkVehicle_25 : decode cX2_checkVehicle 25 = .ok (.ldc 183, 2) := by decide +kernel
theorem dX2_checkVehicle_27 : decode cX2_checkVehicle 27 = .ok (.invokespecial 179, 3) := by decide +kernel
theorem dX2_checkVehicle_30 : decode cX2_checkVehicle 30 = .ok (.athrow, 1) := by decide +kernel
theorem dX2_checkVehicle_31 : decode cX2_checkVehicle 31 = .ok (.return_, 1) := by decide +kernel
theorem dX2_checkLength_0 : decode cX2_checkLength 0 = .ok (.iload_n 0, 1) := by decide +kernel
theorem dX2_checkLength_1 : decode cX2_checkLength 1 = .ok (.iconst 2, 1) := by decide +kernel
theorem dX2_checkLength_2 : decode cX2_checkLength 2 = .ok (.if_icmp .lt 9, 3) := by decide +kernel
theorem dX2_checkLength_5 : decode cX2_checkLength 5 = .ok (.iload_n 0, 1) := by decide +kernel
theorem dX2_checkLength_6 : decode cX2_checkLength 6 = .ok (.bipush 12, 2) := by decide +kernel
theorem dX2_checkLength_8 : decode cX2_checkLength 8 = .ok (.if_icmp .le 13, 3) := by decide +kernel
theorem dX2_checkLength_11 : decode cX2_checkLength 11 = .ok (.new 44, 3) := by decide +kernel
theorem dX2_checkLength_14 : decode cX2_checkLength 14 = .ok (.dup, 1) := by decide +kernel
theorem dX2_checkLength_15 : decode cX2_checkLength 15 = .ok (.ldc 185, 2) := by decide +kernel
theorem dX2_checkLength_17 : decode cX2_checkLength 17 = .ok (.invokespecial 48, 3) := by decide +kernel
theorem dX2_checkLength_20 : decode cX2_checkLength 20 = .ok (.athrow, 1) := by decide +kernel
theorem dX2_checkLength_21 : decode cX2_checkLength 21 = .ok (.return_, 1) := by decide +kernel
theorem dX2_lane_0 : decode cX2_lane 0 = .ok (.aload_n 0, 1) := by decide +kernel
theorem dX2_lane_1 : decode cX2_lane 1 = .ok (.getfield 20, 3) := by decide +kernel
theorem dX2_lane_4 : decode cX2_lane 4 = .ok (.getfield 129, 3) := by decide +kernel
theorem dX2_lane_7 : decode cX2_lane 7 = .ok (.iconst 3, 1) := by decide +kernel
theorem dX2_lane_8 : decode cX2_lane 8 = .ok (.if_icmp .lt 13, 3) := by decide +kernel
theorem dX2_lane_11 : decode cX2_lane 11 = .ok (.new 51, 3) := by decide +kernel
theorem dX2_lane_14 : decode cX2_lane 14 = .ok (.dup, 1) := by decide +kernel
theorem dX2_lane_15 : decode cX2_lane 15 = .ok (.ldc 187, 2) := by decide +kernel
theorem dX2_lane_17 : decode cX2_lane 17 = .ok (.invokespecial 55, 3) := by decide +kernel
theorem dX2_lane_20 : decode cX2_lane 20 = .ok (.athrow, 1) := by decide +kernel
theorem dX2_lane_21 : decode cX2_lane 21 = .ok (.aload_n 0, 1) := by decide +kernel
theorem dX2_lane_22 : decode cX2_lane 22 = .ok (.invokevirtual 189, 3) := by decide +kernel
theorem dX2_lane_25 : decode cX2_lane 25 = .ok (.aload_n 0, 1) := by decide +kernel
theorem dX2_lane_26 : decode cX2_lane 26 = .ok (.getfield 20, 3) := by decide +kernel
theorem dX2_lane_29 : decode cX2_lane 29 = .ok (.invokevirtual 103, 3) := by decide +kernel
theorem dX2_lane_32 : decode cX2_lane 32 = .ok (.pop, 1) := by decide +kernel
theorem dX2_lane_33 : decode cX2_lane 33 = .ok (.aload_n 0, 1) := by decide +kernel
theorem dX2_lane_34 : decode cX2_lane 34 = .ok (.getfield 20, 3) := by decide +kernel
theorem dX2_lane_37 : decode cX2_lane 37 = .ok (.getfield 129, 3) := by decide +kernel
theorem dX2_lane_40 : decode cX2_lane 40 = .ok (.iconst 1, 1) := by decide +kernel
theorem dX2_lane_41 : decode cX2_lane 41 = .ok (.isub, 1) := by decide +kernel
theorem dX2_lane_42 : decode cX2_lane 42 = .ok (.ireturn, 1) := by decide +kernel
theorem dX2_arrive_0 : decode cX2_arrive 0 = .ok (.aload_n 0, 1) := by decide +kernel
theorem dX2_arrive_1 : decode cX2_arrive 1 = .ok (.iload_n 1, 1) := by decide +kernel
theorem dX2_arrive_2 : decode cX2_arrive 2 = .ok (.invokevirtual 138, 3) := by decide +kernel
theorem dX2_arrive_5 : decode cX2_arrive 5 = .ok (.iload_n 2, 1) := by decide +kernel
theorem dX2_arrive_6 : decode cX2_arrive 6 = .ok (.invokestatic 192, 3) := by decide +kernel
theorem dX2_arrive_9 : decode cX2_arrive 9 = .ok (.aload_n 0, 1) := by decide +kernel
theorem dX2_arrive_10 : decode cX2_arrive 10 = .ok (.getfield 20, 3) := by decide +kernel
theorem dX2_arrive_13 : decode cX2_arrive 13 = .ok (.getfield 144, 3) := by decide +kernel
theorem dX2_arrive_16 : decode cX2_arrive 16 = .ok (.iload_n 1, 1) := by decide +kernel
theorem dX2_arrive_17 : decode cX2_arrive 17 = .ok (.aaload, 1) := by decide +kernel
theorem dX2_arrive_18 : decode cX2_arrive 18 = .ok (.getfield 195, 3) := by decide +kernel
theorem dX2_arrive_21 : decode cX2_arrive 21 = .ok (.bipush 6, 2) := by decide +kernel
theorem dX2_arrive_23 : decode cX2_arrive 23 = .ok (.if_icmp .lt 13, 3) := by decide +kernel
theorem dX2_arrive_26 : decode cX2_arrive 26 = .ok (.new 51, 3) := by decide +kernel
theorem dX2_arrive_29 : decode cX2_arrive 29 = .ok (.dup, 1) := by decide +kernel
theorem dX2_arrive_30 : decode cX2_arrive 30 = .ok (.ldc 198, 2) := by decide +kernel
theorem dX2_arrive_32 : decode cX2_arrive 32 = .ok (.invokespecial 55, 3) := by decide +kernel
theorem dX2_arrive_35 : decode cX2_arrive 35 = .ok (.athrow, 1) := by decide +kernel
theorem dX2_arrive_36 : decode cX2_arrive 36 = .ok (.aload_n 0, 1) := by decide +kernel
theorem dX2_arrive_37 : decode cX2_arrive 37 = .ok (.invokevirtual 189, 3) := by decide +kernel
theorem dX2_arrive_40 : decode cX2_arrive 40 = .ok (.aload_n 0, 1) := by decide +kernel
theorem dX2_arrive_41 : decode cX2_arrive 41 = .ok (.getfield 20, 3) := by decide +kernel
theorem dX2_arrive_44 : decode cX2_arrive 44 = .ok (.iload_n 1, 1) := by decide +kernel
theorem dX2_arrive_45 : decode cX2_arrive 45 = .ok (.iload_n 2, 1) := by decide +kernel
theorem dX2_arrive_46 : decode cX2_arrive 46 = .ok (.iload_n 3, 1) := by decide +kernel
theorem dX2_arrive_47 : decode cX2_arrive 47 = .ok (.iload 4, 2) := by decide +kernel
theorem dX2_arrive_49 : decode cX2_arrive 49 = .ok (.invokevirtual 123, 3) := by decide +kernel
theorem dX2_arrive_52 : decode cX2_arrive 52 = .ok (.pop, 1) := by decide +kernel
theorem dX2_arrive_53 : decode cX2_arrive 53 = .ok (.aload_n 0, 1) := by decide +kernel
theorem dX2_arrive_54 : decode cX2_arrive 54 = .ok (.getfield 20, 3) := by decide +kernel
theorem dX2_arrive_57 : decode cX2_arrive 57 = .ok (.getfield 144, 3) := by decide +kernel
theorem dX2_arrive_60 : decode cX2_arrive 60 = .ok (.iload_n 1, 1) := by decide +kernel
theorem dX2_arrive_61 : decode cX2_arrive 61 = .ok (.aaload, 1) := by decide +kernel
theorem dX2_arrive_62 : decode cX2_arrive 62 = .ok (.getfield 195, 3) := by decide +kernel
theorem dX2_arrive_65 : decode cX2_arrive 65 = .ok (.ireturn, 1) := by decide +kernel
theorem dX2_loop_0 : decode cX2_loop 0 = .ok (.aload_n 0, 1) := by decide +kernel
theorem dX2_loop_1 : decode cX2_loop 1 = .ok (.iload_n 1, 1) := by decide +kernel
theorem dX2_loop_2 : decode cX2_loop 2 = .ok (.invokevirtual 138, 3) := by decide +kernel
theorem dX2_loop_5 : decode cX2_loop 5 = .ok (.aload_n 0, 1) := by decide +kernel
theorem dX2_loop_6 : decode cX2_loop 6 = .ok (.invokevirtual 189, 3) := by decide +kernel
theorem dX2_loop_9 : decode cX2_loop 9 = .ok (.aload_n 0, 1) := by decide +kernel
theorem dX2_loop_10 : decode cX2_loop 10 = .ok (.getfield 20, 3) := by decide +kernel
theorem dX2_loop_13 : decode cX2_loop 13 = .ok (.iload_n 1, 1) := by decide +kernel
theorem dX2_loop_14 : decode cX2_loop 14 = .ok (.iload_n 2, 1) := by decide +kernel
theorem dX2_loop_15 : decode cX2_loop 15 = .ok (.invokevirtual 110, 3) := by decide +kernel
theorem dX2_loop_18 : decode cX2_loop 18 = .ok (.pop, 1) := by decide +kernel
theorem dX2_loop_19 : decode cX2_loop 19 = .ok (.aload_n 0, 1) := by decide +kernel
theorem dX2_loop_20 : decode cX2_loop 20 = .ok (.getfield 20, 3) := by decide +kernel
theorem dX2_loop_23 : decode cX2_loop 23 = .ok (.bipush 8, 2) := by decide +kernel
theorem dX2_loop_25 : decode cX2_loop 25 = .ok (.invokevirtual 135, 3) := by decide +kernel
theorem dX2_loop_28 : decode cX2_loop 28 = .ok (.ireturn, 1) := by decide +kernel
theorem dX2_mend_0 : decode cX2_mend 0 = .ok (.aload_n 0, 1) := by decide +kernel
theorem dX2_mend_1 : decode cX2_mend 1 = .ok (.iload_n 1, 1) := by decide +kernel
theorem dX2_mend_2 : decode cX2_mend 2 = .ok (.invokevirtual 138, 3) := by decide +kernel
theorem dX2_mend_5 : decode cX2_mend 5 = .ok (.aload_n 0, 1) := by decide +kernel
theorem dX2_mend_6 : decode cX2_mend 6 = .ok (.getfield 20, 3) := by decide +kernel
theorem dX2_mend_9 : decode cX2_mend 9 = .ok (.getfield 144, 3) := by decide +kernel
theorem dX2_mend_12 : decode cX2_mend 12 = .ok (.iload_n 1, 1) := by decide +kernel
theorem dX2_mend_13 : decode cX2_mend 13 = .ok (.aaload, 1) := by decide +kernel
theorem dX2_mend_14 : decode cX2_mend 14 = .ok (.invokevirtual 200, 3) := by decide +kernel
theorem dX2_mend_17 : decode cX2_mend 17 = .ok (.ifCond .ne 13, 3) := by decide +kernel
theorem dX2_mend_20 : decode cX2_mend 20 = .ok (.new 51, 3) := by decide +kernel
theorem dX2_mend_23 : decode cX2_mend 23 = .ok (.dup, 1) := by decide +kernel
theorem dX2_mend_24 : decode cX2_mend 24 = .ok (.ldc 203, 2) := by decide +kernel
theorem dX2_mend_26 : decode cX2_mend 26 = .ok (.invokespecial 55, 3) := by decide +kernel
theorem dX2_mend_29 : decode cX2_mend 29 = .ok (.athrow, 1) := by decide +kernel
theorem dX2_mend_30 : decode cX2_mend 30 = .ok (.aload_n 0, 1) := by decide +kernel
theorem dX2_mend_31 : decode cX2_mend 31 = .ok (.invokevirtual 189, 3) := by decide +kernel
theorem dX2_mend_34 : decode cX2_mend 34 = .ok (.aload_n 0, 1) := by decide +kernel
theorem dX2_mend_35 : decode cX2_mend 35 = .ok (.getfield 20, 3) := by decide +kernel
theorem dX2_mend_38 : decode cX2_mend 38 = .ok (.iload_n 1, 1) := by decide +kernel
theorem dX2_mend_39 : decode cX2_mend 39 = .ok (.invokevirtual 114, 3) := by decide +kernel
theorem dX2_mend_42 : decode cX2_mend 42 = .ok (.pop, 1) := by decide +kernel
theorem dX2_mend_43 : decode cX2_mend 43 = .ok (.aload_n 0, 1) := by decide +kernel
theorem dX2_mend_44 : decode cX2_mend 44 = .ok (.getfield 20, 3) := by decide +kernel
theorem dX2_mend_47 : decode cX2_mend 47 = .ok (.getfield 144, 3) := by decide +kernel
theorem dX2_mend_50 : decode cX2_mend 50 = .ok (.iload_n 1, 1) := by decide +kernel
theorem dX2_mend_51 : decode cX2_mend 51 = .ok (.aaload, 1) := by decide +kernel
theorem dX2_mend_52 : decode cX2_mend 52 = .ok (.getfield 205, 3) := by decide +kernel
theorem dX2_mend_55 : decode cX2_mend 55 = .ok (.ireturn, 1) := by decide +kernel
theorem dX2_run_0 : decode cX2_run 0 = .ok (.iload_n 1, 1) := by decide +kernel
theorem dX2_run_1 : decode cX2_run 1 = .ok (.iconst 1, 1) := by decide +kernel
theorem dX2_run_2 : decode cX2_run 2 = .ok (.if_icmp .lt 9, 3) := by decide +kernel
theorem dX2_run_5 : decode cX2_run 5 = .ok (.iload_n 1, 1) := by decide +kernel
theorem dX2_run_6 : decode cX2_run 6 = .ok (.bipush 60, 2) := by decide +kernel
theorem dX2_run_8 : decode cX2_run 8 = .ok (.if_icmp .le 13, 3) := by decide +kernel
theorem dX2_run_11 : decode cX2_run 11 = .ok (.new 44, 3) := by decide +kernel
theorem dX2_run_14 : decode cX2_run 14 = .ok (.dup, 1) := by decide +kernel
theorem dX2_run_15 : decode cX2_run 15 = .ok (.ldc 208, 2) := by decide +kernel
theorem dX2_run_17 : decode cX2_run 17 = .ok (.invokespecial 48, 3) := by decide +kernel
theorem dX2_run_20 : decode cX2_run 20 = .ok (.athrow, 1) := by decide +kernel
theorem dX2_run_21 : decode cX2_run 21 = .ok (.aload_n 0, 1) := by decide +kernel
theorem dX2_run_22 : decode cX2_run 22 = .ok (.invokevirtual 189, 3) := by decide +kernel
theorem dX2_run_25 : decode cX2_run 25 = .ok (.aload_n 0, 1) := by decide +kernel
theorem dX2_run_26 : decode cX2_run 26 = .ok (.getfield 20, 3) := by decide +kernel
theorem dX2_run_29 : decode cX2_run 29 = .ok (.iconst 4, 1) := by decide +kernel
theorem dX2_run_30 : decode cX2_run 30 = .ok (.invokevirtual 135, 3) := by decide +kernel
theorem dX2_run_33 : decode cX2_run 33 = .ok (.aload_n 0, 1) := by decide +kernel
theorem dX2_run_34 : decode cX2_run 34 = .ok (.getfield 20, 3) := by decide +kernel
theorem dX2_run_37 : decode cX2_run 37 = .ok (.iconst 5, 1) := by decide +kernel
theorem dX2_run_38 : decode cX2_run 38 = .ok (.invokevirtual 135, 3) := by decide +kernel
theorem dX2_run_41 : decode cX2_run 41 = .ok (.iadd, 1) := by decide +kernel
theorem dX2_run_42 : decode cX2_run 42 = .ok (.istore_n 2, 1) := by decide +kernel
theorem dX2_run_43 : decode cX2_run 43 = .ok (.aload_n 0, 1) := by decide +kernel
theorem dX2_run_44 : decode cX2_run 44 = .ok (.getfield 20, 3) := by decide +kernel
theorem dX2_run_47 : decode cX2_run 47 = .ok (.iload_n 1, 1) := by decide +kernel
theorem dX2_run_48 : decode cX2_run 48 = .ok (.invokevirtual 120, 3) := by decide +kernel
theorem dX2_run_51 : decode cX2_run 51 = .ok (.pop, 1) := by decide +kernel
theorem dX2_run_52 : decode cX2_run 52 = .ok (.aload_n 0, 1) := by decide +kernel
theorem dX2_run_53 : decode cX2_run 53 = .ok (.getfield 20, 3) := by decide +kernel
theorem dX2_run_56 : decode cX2_run 56 = .ok (.iconst 4, 1) := by decide +kernel
theorem dX2_run_57 : decode cX2_run 57 = .ok (.invokevirtual 135, 3) := by decide +kernel
theorem dX2_run_60 : decode cX2_run 60 = .ok (.aload_n 0, 1) := by decide +kernel
theorem dX2_run_61 : decode cX2_run 61 = .ok (.getfield 20, 3) := by decide +kernel
theorem dX2_run_64 : decode cX2_run 64 = .ok (.iconst 5, 1) := by decide +kernel
theorem dX2_run_65 : decode cX2_run 65 = .ok (.invokevirtual 135, 3) := by decide +kernel
theorem dX2_run_68 : decode cX2_run 68 = .ok (.iadd, 1) := by decide +kernel
theorem dX2_run_69 : decode cX2_run 69 = .ok (.iload_n 2, 1) := by decide +kernel
theorem dX2_run_70 : decode cX2_run 70 = .ok (.isub, 1) := by decide +kernel
theorem dX2_run_71 : decode cX2_run 71 = .ok (.ireturn, 1) := by decide +kernel
theorem dX2_set_0 : decode cX2_set 0 = .ok (.iload_n 1, 1) := by decide +kernel
theorem dX2_set_1 : decode cX2_set 1 = .ok (.iload_n 2, 1) := by decide +kernel
theorem dX2_set_2 : decode cX2_set 2 = .ok (.invokestatic 210, 3) := by decide +kernel
theorem dX2_set_5 : decode cX2_set 5 = .ok (.ifCond .ne 13, 3) := by decide +kernel
theorem dX2_set_8 : decode cX2_set 8 = .ok (.new 44, 3) := by decide +kernel
theorem dX2_set_11 : decode cX2_set 11 = .ok (.dup, 1) := by decide +kernel
theorem dX2_set_12 : decode cX2_set 12 = .ok (.ldc 213, 2) := by decide +kernel
theorem dX2_set_14 : decode cX2_set 14 = .ok (.invokespecial 48, 3) := by decide +kernel
theorem dX2_set_17 : decode cX2_set 17 = .ok (.athrow, 1) := by decide +kernel
theorem dX2_set_18 : decode cX2_set 18 = .ok (.aload_n 0, 1) := by decide +kernel
theorem dX2_set_19 : decode cX2_set 19 = .ok (.invokevirtual 189, 3) := by decide +kernel
theorem dX2_set_22 : decode cX2_set 22 = .ok (.aload_n 0, 1) := by decide +kernel
theorem dX2_set_23 : decode cX2_set 23 = .ok (.getfield 20, 3) := by decide +kernel
theorem dX2_set_26 : decode cX2_set 26 = .ok (.getfield 168, 3) := by decide +kernel
theorem dX2_set_29 : decode cX2_set 29 = .ok (.iload_n 1, 1) := by decide +kernel
theorem dX2_set_30 : decode cX2_set 30 = .ok (.iaload, 1) := by decide +kernel
theorem dX2_set_31 : decode cX2_set 31 = .ok (.istore_n 3, 1) := by decide +kernel
theorem dX2_set_32 : decode cX2_set 32 = .ok (.aload_n 0, 1) := by decide +kernel
theorem dX2_set_33 : decode cX2_set 33 = .ok (.getfield 20, 3) := by decide +kernel
theorem dX2_set_36 : decode cX2_set 36 = .ok (.iload_n 1, 1) := by decide +kernel
theorem dX2_set_37 : decode cX2_set 37 = .ok (.iload_n 2, 1) := by decide +kernel
theorem dX2_set_38 : decode cX2_set 38 = .ok (.invokevirtual 215, 3) := by decide +kernel
theorem dX2_set_41 : decode cX2_set 41 = .ok (.pop, 1) := by decide +kernel
theorem dX2_set_42 : decode cX2_set 42 = .ok (.iload_n 3, 1) := by decide +kernel
theorem dX2_set_43 : decode cX2_set 43 = .ok (.ireturn, 1) := by decide +kernel
theorem dX2_undo_0 : decode cX2_undo 0 = .ok (.aload_n 0, 1) := by decide +kernel
theorem dX2_undo_1 : decode cX2_undo 1 = .ok (.getfield 34, 3) := by decide +kernel
theorem dX2_undo_4 : decode cX2_undo 4 = .ok (.ifCond .gt 13, 3) := by decide +kernel
theorem dX2_undo_7 : decode cX2_undo 7 = .ok (.new 51, 3) := by decide +kernel
theorem dX2_undo_10 : decode cX2_undo 10 = .ok (.dup, 1) := by decide +kernel
theorem dX2_undo_11 : decode cX2_undo 11 = .ok (.ldc 218, 2) := by decide +kernel
theorem dX2_undo_13 : decode cX2_undo 13 = .ok (.invokespecial 55, 3) := by decide +kernel
theorem dX2_undo_16 : decode cX2_undo 16 = .ok (.athrow, 1) := by decide +kernel
theorem dX2_undo_17 : decode cX2_undo 17 = .ok (.aload_n 0, 1) := by decide +kernel
theorem dX2_undo_18 : decode cX2_undo 18 = .ok (.dup, 1) := by decide +kernel
theorem dX2_undo_19 : decode cX2_undo 19 = .ok (.getfield 34, 3) := by decide +kernel
theorem dX2_undo_22 : decode cX2_undo 22 = .ok (.iconst 1, 1) := by decide +kernel
theorem dX2_undo_23 : decode cX2_undo 23 = .ok (.isub, 1) := by decide +kernel
theorem dX2_undo_24 : decode cX2_undo 24 = .ok (.putfield 34, 3) := by decide +kernel
theorem dX2_undo_27 : decode cX2_undo 27 = .ok (.aload_n 0, 1) := by decide +kernel
theorem dX2_undo_28 : decode cX2_undo 28 = .ok (.getfield 20, 3) := by decide +kernel
theorem dX2_undo_31 : decode cX2_undo 31 = .ok (.aload_n 0, 1) := by decide +kernel
theorem dX2_undo_32 : decode cX2_undo 32 = .ok (.getfield 27, 3) := by decide +kernel
theorem dX2_undo_35 : decode cX2_undo 35 = .ok (.aload_n 0, 1) := by decide +kernel
theorem dX2_undo_36 : decode cX2_undo 36 = .ok (.getfield 31, 3) := by decide +kernel
theorem dX2_undo_39 : decode cX2_undo 39 = .ok (.aload_n 0, 1) := by decide +kernel
theorem dX2_undo_40 : decode cX2_undo 40 = .ok (.getfield 34, 3) := by decide +kernel
theorem dX2_undo_43 : decode cX2_undo 43 = .ok (.iadd, 1) := by decide +kernel
theorem dX2_undo_44 : decode cX2_undo 44 = .ok (.bipush 14, 2) := by decide +kernel
theorem dX2_undo_46 : decode cX2_undo 46 = .ok (.irem, 1) := by decide +kernel
theorem dX2_undo_47 : decode cX2_undo 47 = .ok (.aaload, 1) := by decide +kernel
theorem dX2_undo_48 : decode cX2_undo 48 = .ok (.invokevirtual 220, 3) := by decide +kernel
theorem dX2_undo_51 : decode cX2_undo 51 = .ok (.aload_n 0, 1) := by decide +kernel
theorem dX2_undo_52 : decode cX2_undo 52 = .ok (.getfield 34, 3) := by decide +kernel
theorem dX2_undo_55 : decode cX2_undo 55 = .ok (.ireturn, 1) := by decide +kernel
theorem dX2_isSetting_0 : decode cX2_isSetting 0 = .ok (.iload_n 0, 1) := by decide +kernel
theorem dX2_isSetting_1 : decode cX2_isSetting 1 = .ok (.tableswitch 51 0 2 #[27, 35, 43], 27) := by decide +kernel
theorem dX2_isSetting_28 : decode cX2_isSetting 28 = .ok (.iload_n 1, 1) := by decide +kernel
theorem dX2_isSetting_29 : decode cX2_isSetting 29 = .ok (.iconst 1, 1) := by decide +kernel
theorem dX2_isSetting_30 : decode cX2_isSetting 30 = .ok (.bipush 20, 2) := by decide +kernel
theorem dX2_isSetting_32 : decode cX2_isSetting 32 = .ok (.invokestatic 92, 3) := by decide +kernel
theorem dX2_isSetting_35 : decode cX2_isSetting 35 = .ok (.ireturn, 1) := by decide +kernel
theorem dX2_isSetting_36 : decode cX2_isSetting 36 = .ok (.iload_n 1, 1) := by decide +kernel
theorem dX2_isSetting_37 : decode cX2_isSetting 37 = .ok (.iconst 1, 1) := by decide +kernel
theorem dX2_isSetting_38 : decode cX2_isSetting 38 = .ok (.bipush 60, 2) := by decide +kernel
theorem dX2_isSetting_40 : decode cX2_isSetting 40 = .ok (.invokestatic 92, 3) := by decide +kernel
theorem dX2_isSetting_43 : decode cX2_isSetting 43 = .ok (.ireturn, 1) := by decide +kernel
theorem dX2_isSetting_44 : decode cX2_isSetting 44 = .ok (.iload_n 1, 1) := by decide +kernel
theorem dX2_isSetting_45 : decode cX2_isSetting 45 = .ok (.iconst 0, 1) := by decide +kernel
theorem dX2_isSetting_46 : decode cX2_isSetting 46 = .ok (.bipush 20, 2) := by decide +kernel
theorem dX2_isSetting_48 : decode cX2_isSetting 48 = .ok (.invokestatic 92, 3) := by decide +kernel
theorem dX2_isSetting_51 : decode cX2_isSetting 51 = .ok (.ireturn, 1) := by decide +kernel
theorem dX2_isSetting_52 : decode cX2_isSetting 52 = .ok (.iconst 0, 1) := by decide +kernel
theorem dX2_isSetting_53 : decode cX2_isSetting 53 = .ok (.ireturn, 1) := by decide +kernel
theorem dX2_remember_0 : decode cX2_remember 0 = .ok (.aload_n 0, 1) := by decide +kernel
theorem dX2_remember_1 : decode cX2_remember 1 = .ok (.getfield 27, 3) := by decide +kernel
theorem dX2_remember_4 : decode cX2_remember 4 = .ok (.aload_n 0, 1) := by decide +kernel
theorem dX2_remember_5 : decode cX2_remember 5 = .ok (.getfield 31, 3) := by decide +kernel
theorem dX2_remember_8 : decode cX2_remember 8 = .ok (.aload_n 0, 1) := by decide +kernel
theorem dX2_remember_9 : decode cX2_remember 9 = .ok (.getfield 34, 3) := by decide +kernel
theorem dX2_remember_12 : decode cX2_remember 12 = .ok (.iadd, 1) := by decide +kernel
theorem dX2_remember_13 : decode cX2_remember 13 = .ok (.bipush 14, 2) := by decide +kernel
theorem dX2_remember_15 : decode cX2_remember 15 = .ok (.irem, 1) := by decide +kernel
theorem dX2_remember_16 : decode cX2_remember 16 = .ok (.aaload, 1) := by decide +kernel
theorem dX2_remember_17 : decode cX2_remember 17 = .ok (.aload_n 0, 1) := by decide +kernel
theorem dX2_remember_18 : decode cX2_remember 18 = .ok (.getfield 20, 3) := by decide +kernel
theorem dX2_remember_21 : decode cX2_remember 21 = .ok (.invokevirtual 220, 3) := by decide +kernel
theorem dX2_remember_24 : decode cX2_remember 24 = .ok (.aload_n 0, 1) := by decide +kernel
theorem dX2_remember_25 : decode cX2_remember 25 = .ok (.getfield 34, 3) := by decide +kernel
theorem dX2_remember_28 : decode cX2_remember 28 = .ok (.bipush 14, 2) := by decide +kernel
theorem dX2_remember_30 : decode cX2_remember 30 = .ok (.if_icmp .ge 16, 3) := by decide +kernel
theorem dX2_remember_33 : decode cX2_remember 33 = .ok (.aload_n 0, 1) := by decide +kernel
theorem dX2_remember_34 : decode cX2_remember 34 = .ok (.dup, 1) := by decide +kernel
theorem dX2_remember_35 : decode cX2_remember 35 = .ok (.getfield 34, 3) := by decide +kernel
theorem dX2_remember_38 : decode cX2_remember 38 = .ok (.iconst 1, 1) := by decide +kernel
theorem dX2_remember_39 : decode cX2_remember 39 = .ok (.iadd, 1) := by decide +kernel
theorem dX2_remember_40 : decode cX2_remember 40 = .ok (.putfield 34, 3) := by decide +kernel
theorem dX2_remember_43 : decode cX2_remember 43 = .ok (.goto 16, 3) := by decide +kernel
theorem dX2_remember_46 : decode cX2_remember 46 = .ok (.aload_n 0, 1) := by decide +kernel
theorem dX2_remember_47 : decode cX2_remember 47 = .ok (.aload_n 0, 1) := by decide +kernel
theorem dX2_remember_48 : decode cX2_remember 48 = .ok (.getfield 31, 3) := by decide +kernel
theorem dX2_remember_51 : decode cX2_remember 51 = .ok (.iconst 1, 1) := by decide +kernel
theorem dX2_remember_52 : decode cX2_remember 52 = .ok (.iadd, 1) := by decide +kernel
theorem dX2_remember_53 : decode cX2_remember 53 = .ok (.bipush 14, 2) := by decide +kernel
theorem dX2_remember_55 : decode cX2_remember 55 = .ok (.irem, 1) := by decide +kernel
theorem dX2_remember_56 : decode cX2_remember 56 = .ok (.putfield 31, 3) := by decide +kernel
theorem dX2_remember_59 : decode cX2_remember 59 = .ok (.return_, 1) := by decide +kernel
theorem dX2_forgetAll_0 : decode cX2_forgetAll 0 = .ok (.aload_n 0, 1) := by decide +kernel
theorem dX2_forgetAll_1 : decode cX2_forgetAll 1 = .ok (.iconst 0, 1) := by decide +kernel
theorem dX2_forgetAll_2 : decode cX2_forgetAll 2 = .ok (.putfield 31, 3) := by decide +kernel
theorem dX2_forgetAll_5 : decode cX2_forgetAll 5 = .ok (.aload_n 0, 1) := by decide +kernel
theorem dX2_forgetAll_6 : decode cX2_forgetAll 6 = .ok (.iconst 0, 1) := by decide +kernel
theorem dX2_forgetAll_7 : decode cX2_forgetAll 7 = .ok (.putfield 34, 3) := by decide +kernel
theorem dX2_forgetAll_10 : decode cX2_forgetAll 10 = .ok (.return_, 1) := by decide +kernel
theorem dX2_emptyIn_0 : decode cX2_emptyIn 0 = .ok (.aload_n 0, 1) := by decide +kernel
theorem dX2_emptyIn_1 : decode cX2_emptyIn 1 = .ok (.iload_n 1, 1) := by decide +kernel
theorem dX2_emptyIn_2 : decode cX2_emptyIn 2 = .ok (.invokevirtual 138, 3) := by decide +kernel
theorem dX2_emptyIn_5 : decode cX2_emptyIn 5 = .ok (.aload_n 0, 1) := by decide +kernel
theorem dX2_emptyIn_6 : decode cX2_emptyIn 6 = .ok (.getfield 24, 3) := by decide +kernel
theorem dX2_emptyIn_9 : decode cX2_emptyIn 9 = .ok (.aload_n 0, 1) := by decide +kernel
theorem dX2_emptyIn_10 : decode cX2_emptyIn 10 = .ok (.getfield 20, 3) := by decide +kernel
theorem dX2_emptyIn_13 : decode cX2_emptyIn 13 = .ok (.invokevirtual 220, 3) := by decide +kernel
theorem dX2_emptyIn_16 : decode cX2_emptyIn 16 = .ok (.aload_n 0, 1) := by decide +kernel
theorem dX2_emptyIn_17 : decode cX2_emptyIn 17 = .ok (.getfield 24, 3) := by decide +kernel
theorem dX2_emptyIn_20 : decode cX2_emptyIn 20 = .ok (.getfield 144, 3) := by decide +kernel
theorem dX2_emptyIn_23 : decode cX2_emptyIn 23 = .ok (.iload_n 1, 1) := by decide +kernel
theorem dX2_emptyIn_24 : decode cX2_emptyIn 24 = .ok (.aaload, 1) := by decide +kernel
theorem dX2_emptyIn_25 : decode cX2_emptyIn 25 = .ok (.astore_n 2, 1) := by decide +kernel
theorem dX2_emptyIn_26 : decode cX2_emptyIn 26 = .ok (.iconst 0, 1) := by decide +kernel
theorem dX2_emptyIn_27 : decode cX2_emptyIn 27 = .ok (.istore_n 3, 1) := by decide +kernel
theorem dX2_emptyIn_28 : decode cX2_emptyIn 28 = .ok (.iload_n 3, 1) := by decide +kernel
theorem dX2_emptyIn_29 : decode cX2_emptyIn 29 = .ok (.sipush 400, 3) := by decide +kernel
theorem dX2_emptyIn_32 : decode cX2_emptyIn 32 = .ok (.if_icmp .gt 29, 3) := by decide +kernel
theorem dX2_emptyIn_35 : decode cX2_emptyIn 35 = .ok (.aload_n 2, 1) := by decide +kernel
theorem dX2_emptyIn_36 : decode cX2_emptyIn 36 = .ok (.getfield 195, 3) := by decide +kernel
theorem dX2_emptyIn_39 : decode cX2_emptyIn 39 = .ok (.ifCond .ne 5, 3) := by decide +kernel
theorem dX2_emptyIn_42 : decode cX2_emptyIn 42 = .ok (.iload_n 3, 1) := by decide +kernel
theorem dX2_emptyIn_43 : decode cX2_emptyIn 43 = .ok (.ireturn, 1) := by decide +kernel
theorem dX2_emptyIn_44 : decode cX2_emptyIn 44 = .ok (.aload_n 2, 1) := by decide +kernel
theorem dX2_emptyIn_45 : decode cX2_emptyIn 45 = .ok (.aload_n 0, 1) := by decide +kernel
theorem dX2_emptyIn_46 : decode cX2_emptyIn 46 = .ok (.getfield 24, 3) := by decide +kernel
theorem dX2_emptyIn_49 : decode cX2_emptyIn 49 = .ok (.getfield 168, 3) := by decide +kernel
theorem dX2_emptyIn_52 : decode cX2_emptyIn 52 = .ok (.invokevirtual 224, 3) := by decide +kernel
theorem dX2_emptyIn_55 : decode cX2_emptyIn 55 = .ok (.iinc 3 1, 3) := by decide +kernel
theorem dX2_emptyIn_58 : decode cX2_emptyIn 58 = .ok (.goto (-30), 3) := by decide +kernel
theorem dX2_emptyIn_61 : decode cX2_emptyIn 61 = .ok (.iconst (-1), 1) := by decide +kernel
theorem dX2_emptyIn_62 : decode cX2_emptyIn 62 = .ok (.ireturn, 1) := by decide +kernel
theorem dX2_throughIn_0 : decode cX2_throughIn 0 = .ok (.aload_n 0, 1) := by decide +kernel
theorem dX2_throughIn_1 : decode cX2_throughIn 1 = .ok (.iload_n 1, 1) := by decide +kernel
theorem dX2_throughIn_2 : decode cX2_throughIn 2 = .ok (.iload_n 2, 1) := by decide +kernel
theorem dX2_throughIn_3 : decode cX2_throughIn 3 = .ok (.invokevirtual 153, 3) := by decide +kernel
theorem dX2_throughIn_6 : decode cX2_throughIn 6 = .ok (.aload_n 0, 1) := by decide +kernel
theorem dX2_throughIn_7 : decode cX2_throughIn 7 = .ok (.getfield 24, 3) := by decide +kernel
theorem dX2_throughIn_10 : decode cX2_throughIn 10 = .ok (.aload_n 0, 1) := by decide +kernel
theorem dX2_throughIn_11 : decode cX2_throughIn 11 = .ok (.getfield 20, 3) := by decide +kernel
theorem dX2_throughIn_14 : decode cX2_throughIn 14 = .ok (.invokevirtual 220, 3) := by decide +kernel
theorem dX2_throughIn_17 : decode cX2_throughIn 17 = .ok (.aload_n 0, 1) := by decide +kernel
theorem dX2_throughIn_18 : decode cX2_throughIn 18 = .ok (.iload_n 1, 1) := by decide +kernel
theorem dX2_throughIn_19 : decode cX2_throughIn 19 = .ok (.iload_n 2, 1) := by decide +kernel
theorem dX2_throughIn_20 : decode cX2_throughIn 20 = .ok (.invokevirtual 228, 3) := by decide +kernel
theorem dX2_throughIn_23 : decode cX2_throughIn 23 = .ok (.ireturn, 1) := by decide +kernel
theorem dX2_bestLane_0 : decode cX2_bestLane 0 = .ok (.iload_n 1, 1) := by decide +kernel
theorem dX2_bestLane_1 : decode cX2_bestLane 1 = .ok (.invokestatic 192, 3) := by decide +kernel
theorem dX2_bestLane_4 : decode cX2_bestLane 4 = .ok (.iconst (-1), 1) := by decide +kernel
theorem dX2_bestLane_5 : decode cX2_bestLane 5 = .ok (.istore_n 2, 1) := by decide +kernel
theorem dX2_bestLane_6 : decode cX2_bestLane 6 = .ok (.sipush 401, 3) := by decide +kernel
theorem dX2_bestLane_9 : decode cX2_bestLane 9 = .ok (.istore_n 3, 1) := by decide +kernel
theorem dX2_bestLane_10 : decode cX2_bestLane 10 = .ok (.iconst 0, 1) := by decide +kernel
theorem dX2_bestLane_11 : decode cX2_bestLane 11 = .ok (.istore 4, 2) := by decide +kernel
theorem dX2_bestLane_13 : decode cX2_bestLane 13 = .ok (.iload 4, 2) := by decide +kernel
theorem dX2_bestLane_15 : decode cX2_bestLane 15 = .ok (.aload_n 0, 1) := by decide +kernel
theorem dX2_bestLane_16 : decode cX2_bestLane 16 = .ok (.getfield 20, 3) := by decide +kernel
theorem dX2_bestLane_19 : decode cX2_bestLane 19 = .ok (.getfield 129, 3) := by decide +kernel
theorem dX2_bestLane_22 : decode cX2_bestLane 22 = .ok (.if_icmp .ge 76, 3) := by decide +kernel
theorem dX2_bestLane_25 : decode cX2_bestLane 25 = .ok (.aload_n 0, 1) := by decide +kernel
theorem dX2_bestLane_26 : decode cX2_bestLane 26 = .ok (.getfield 24, 3) := by decide +kernel
theorem dX2_bestLane_29 : decode cX2_bestLane 29 = .ok (.aload_n 0, 1) := by decide +kernel
theorem dX2_bestLane_30 : decode cX2_bestLane 30 = .ok (.getfield 20, 3) := by decide +kernel
theorem dX2_bestLane_33 : decode cX2_bestLane 33 = .ok (.invokevirtual 220, 3) := by decide +kernel
theorem dX2_bestLane_36 : decode cX2_bestLane 36 = .ok (.aload_n 0, 1) := by decide +kernel
theorem dX2_bestLane_37 : decode cX2_bestLane 37 = .ok (.getfield 24, 3) := by decide +kernel
theorem dX2_bestLane_40 : decode cX2_bestLane 40 = .ok (.iload 4, 2) := by decide +kernel
theorem dX2_bestLane_42 : decode cX2_bestLane 42 = .ok (.iload_n 1, 1) := by decide +kernel
theorem dX2_bestLane_43 : decode cX2_bestLane 43 = .ok (.iconst 0, 1) := by decide +kernel
theorem dX2_bestLane_44 : decode cX2_bestLane 44 = .ok (.iconst 0, 1) := by decide +kernel
theorem dX2_bestLane_45 : decode cX2_bestLane 45 = .ok (.invokevirtual 123, 3) := by decide +kernel
theorem dX2_bestLane_48 : decode cX2_bestLane 48 = .ok (.ifCond .eq 44, 3) := by decide +kernel
theorem dX2_bestLane_51 : decode cX2_bestLane 51 = .ok (.aload_n 0, 1) := by decide +kernel
theorem dX2_bestLane_52 : decode cX2_bestLane 52 = .ok (.iload 4, 2) := by decide +kernel
theorem dX2_bestLane_54 : decode cX2_bestLane 54 = .ok (.aload_n 0, 1) := by decide +kernel
theorem dX2_bestLane_55 : decode cX2_bestLane 55 = .ok (.getfield 24, 3) := by decide +kernel
theorem dX2_bestLane_58 : decode cX2_bestLane 58 = .ok (.getfield 144, 3) := by decide +kernel
theorem dX2_bestLane_61 : decode cX2_bestLane 61 = .ok (.iload 4, 2) := by decide +kernel
theorem dX2_bestLane_63 : decode cX2_bestLane 63 = .ok (.aaload, 1) := by decide +kernel
theorem dX2_bestLane_64 : decode cX2_bestLane 64 = .ok (.getfield 195, 3) := by decide +kernel
theorem dX2_bestLane_67 : decode cX2_bestLane 67 = .ok (.iconst 1, 1) := by decide +kernel
theorem dX2_bestLane_68 : decode cX2_bestLane 68 = .ok (.isub, 1) := by decide +kernel
theorem dX2_bestLane_69 : decode cX2_bestLane 69 = .ok (.invokevirtual 228, 3) := by decide +kernel
theorem dX2_bestLane_72 : decode cX2_bestLane 72 = .ok (.istore 5, 2) := by decide +kernel
theorem dX2_bestLane_74 : decode cX2_bestLane 74 = .ok (.iload 5, 2) := by decide +kernel
theorem dX2_bestLane_76 : decode cX2_bestLane 76 = .ok (.iconst (-1), 1) := by decide +kernel
theorem dX2_bestLane_77 : decode cX2_bestLane 77 = .ok (.if_icmp .eq 15, 3) := by decide +kernel
theorem dX2_bestLane_80 : decode cX2_bestLane 80 = .ok (.iload 5, 2) := by decide +kernel
theorem dX2_bestLane_82 : decode cX2_bestLane 82 = .ok (.iload_n 3, 1) := by decide +kernel
theorem dX2_bestLane_83 : decode cX2_bestLane 83 = .ok (.if_icmp .ge 9, 3) := by decide +kernel
theorem dX2_bestLane_86 : decode cX2_bestLane 86 = .ok (.iload 4, 2) := by decide +kernel
theorem dX2_bestLane_88 : decode cX2_bestLane 88 = .ok (.istore_n 2, 1) := by decide +kernel
theorem dX2_bestLane_89 : decode cX2_bestLane 89 = .ok (.iload 5, 2) := by decide +kernel
theorem dX2_bestLane_91 : decode cX2_bestLane 91 = .ok (.istore_n 3, 1) := by decide +kernel
theorem dX2_bestLane_92 : decode cX2_bestLane 92 = .ok (.iinc 4 1, 3) := by decide +kernel
theorem dX2_bestLane_95 : decode cX2_bestLane 95 = .ok (.goto (-82), 3) := by decide +kernel
theorem dX2_bestLane_98 : decode cX2_bestLane 98 = .ok (.iload_n 2, 1) := by decide +kernel
theorem dX2_bestLane_99 : decode cX2_bestLane 99 = .ok (.ireturn, 1) := by decide +kernel
theorem dX2_coming_0 : decode cX2_coming 0 = .ok (.iload_n 1, 1) := by decide +kernel
theorem dX2_coming_1 : decode cX2_coming 1 = .ok (.iconst 1, 1) := by decide +kernel
theorem dX2_coming_2 : decode cX2_coming 2 = .ok (.if_icmp .lt 10, 3) := by decide +kernel
theorem dX2_coming_5 : decode cX2_coming 5 = .ok (.iload_n 1, 1) := by decide +kernel
theorem dX2_coming_6 : decode cX2_coming 6 = .ok (.sipush 400, 3) := by decide +kernel
theorem dX2_coming_9 : decode cX2_coming 9 = .ok (.if_icmp .le 13, 3) := by decide +kernel
theorem dX2_coming_12 : decode cX2_coming 12 = .ok (.new 44, 3) := by decide +kernel
theorem dX2_coming_15 : decode cX2_coming 15 = .ok (.dup, 1) := by decide +kernel
theorem dX2_coming_16 : decode cX2_coming 16 = .ok (.ldc 231, 2) := by decide +kernel
theorem dX2_coming_18 : decode cX2_coming 18 = .ok (.invokespecial 48, 3) := by decide +kernel
theorem dX2_coming_21 : decode cX2_coming 21 = .ok (.athrow, 1) := by decide +kernel
theorem dX2_coming_22 : decode cX2_coming 22 = .ok (.iload_n 2, 1) := by decide +kernel
theorem dX2_coming_23 : decode cX2_coming 23 = .ok (.ifCond .lt 8, 3) := by decide +kernel
theorem dX2_coming_26 : decode cX2_coming 26 = .ok (.iload_n 2, 1) := by decide +kernel
theorem dX2_coming_27 : decode cX2_coming 27 = .ok (.iconst 4, 1) := by decide +kernel
theorem dX2_coming_28 : decode cX2_coming 28 = .ok (.if_icmp .le 13, 3) := by decide +kernel
theorem dX2_coming_31 : decode cX2_coming 31 = .ok (.new 44, 3) := by decide +kernel
theorem dX2_coming_34 : decode cX2_coming 34 = .ok (.dup, 1) := by decide +kernel
theorem dX2_coming_35 : decode cX2_coming 35 = .ok (.ldc 157, 2) := by decide +kernel
theorem dX2_coming_37 : decode cX2_coming 37 = .ok (.invokespecial 48, 3) := by decide +kernel
theorem dX2_coming_40 : decode cX2_coming 40 = .ok (.athrow, 1) := by decide +kernel
theorem dX2_coming_41 : decode cX2_coming 41 = .ok (.aload_n 0, 1) := by decide +kernel
theorem dX2_coming_42 : decode cX2_coming 42 = .ok (.getfield 24, 3) := by decide +kernel
theorem dX2_coming_45 : decode cX2_coming 45 = .ok (.aload_n 0, 1) := by decide +kernel
theorem dX2_coming_46 : decode cX2_coming 46 = .ok (.getfield 20, 3) := by decide +kernel
theorem dX2_coming_49 : decode cX2_coming 49 = .ok (.invokevirtual 220, 3) := by decide +kernel
theorem dX2_coming_52 : decode cX2_coming 52 = .ok (.iconst 0, 1) := by decide +kernel
theorem dX2_coming_53 : decode cX2_coming 53 = .ok (.istore_n 3, 1) := by decide +kernel
theorem dX2_coming_54 : decode cX2_coming 54 = .ok (.iconst 0, 1) := by decide +kernel
theorem dX2_coming_55 : decode cX2_coming 55 = .ok (.istore 4, 2) := by decide +kernel
theorem dX2_coming_57 : decode cX2_coming 57 = .ok (.iload 4, 2) := by decide +kernel
theorem dX2_coming_59 : decode cX2_coming 59 = .ok (.iload_n 1, 1) := by decide +kernel
theorem dX2_coming_60 : decode cX2_coming 60 = .ok (.if_icmp .ge 28, 3) := by decide +kernel
theorem dX2_coming_63 : decode cX2_coming 63 = .ok (.aload_n 0, 1) := by decide +kernel
theorem dX2_coming_64 : decode cX2_coming 64 = .ok (.getfield 24, 3) := by decide +kernel
theorem dX2_coming_67 : decode cX2_coming 67 = .ok (.iconst 1, 1) := by decide +kernel
theorem dX2_coming_68 : decode cX2_coming 68 = .ok (.invokevirtual 120, 3) := by decide +kernel
theorem dX2_coming_71 : decode cX2_coming 71 = .ok (.pop, 1) := by decide +kernel
theorem dX2_coming_72 : decode cX2_coming 72 = .ok (.iload_n 3, 1) := by decide +kernel
theorem dX2_coming_73 : decode cX2_coming 73 = .ok (.aload_n 0, 1) := by decide +kernel
theorem dX2_coming_74 : decode cX2_coming 74 = .ok (.getfield 24, 3) := by decide +kernel
theorem dX2_coming_77 : decode cX2_coming 77 = .ok (.invokevirtual 233, 3) := by decide +kernel
theorem dX2_coming_80 : decode cX2_coming 80 = .ok (.iadd, 1) := by decide +kernel
theorem dX2_coming_81 : decode cX2_coming 81 = .ok (.istore_n 3, 1) := by decide +kernel
theorem dX2_coming_82 : decode cX2_coming 82 = .ok (.iinc 4 1, 3) := by decide +kernel
theorem dX2_coming_85 : decode cX2_coming 85 = .ok (.goto (-28), 3) := by decide +kernel
theorem dX2_coming_88 : decode cX2_coming 88 = .ok (.iload_n 2, 1) := by decide +kernel
theorem dX2_coming_89 : decode cX2_coming 89 = .ok (.tableswitch 96 0 3 #[31, 49, 67, 87], 31) := by decide +kernel
theorem dX2_coming_120 : decode cX2_coming 120 = .ok (.aload_n 0, 1) := by decide +kernel
theorem dX2_coming_121 : decode cX2_coming 121 = .ok (.getfield 24, 3) := by decide +kernel
theorem dX2_coming_124 : decode cX2_coming 124 = .ok (.iconst 4, 1) := by decide +kernel
theorem dX2_coming_125 : decode cX2_coming 125 = .ok (.invokevirtual 135, 3) := by decide +kernel
theorem dX2_coming_128 : decode cX2_coming 128 = .ok (.aload_n 0, 1) := by decide +kernel
theorem dX2_coming_129 : decode cX2_coming 129 = .ok (.getfield 20, 3) := by decide +kernel
theorem dX2_coming_132 : decode cX2_coming 132 = .ok (.iconst 4, 1) := by decide +kernel
theorem dX2_coming_133 : decode cX2_coming 133 = .ok (.invokevirtual 135, 3) := by decide +kernel
theorem dX2_coming_136 : decode cX2_coming 136 = .ok (.isub, 1) := by decide +kernel
theorem dX2_coming_137 : decode cX2_coming 137 = .ok (.ireturn, 1) := by decide +kernel
theorem dX2_coming_138 : decode cX2_coming 138 = .ok (.aload_n 0, 1) := by decide +kernel
theorem dX2_coming_139 : decode cX2_coming 139 = .ok (.getfield 24, 3) := by decide +kernel
theorem dX2_coming_142 : decode cX2_coming 142 = .ok (.iconst 5, 1) := by decide +kernel
theorem dX2_coming_143 : decode cX2_coming 143 = .ok (.invokevirtual 135, 3) := by decide +kernel
theorem dX2_coming_146 : decode cX2_coming 146 = .ok (.aload_n 0, 1) := by decide +kernel
theorem dX2_coming_147 : decode cX2_coming 147 = .ok (.getfield 20, 3) := by decide +kernel
theorem dX2_coming_150 : decode cX2_coming 150 = .ok (.iconst 5, 1) := by decide +kernel
theorem dX2_coming_151 : decode cX2_coming 151 = .ok (.invokevirtual 135, 3) := by decide +kernel
theorem dX2_coming_154 : decode cX2_coming 154 = .ok (.isub, 1) := by decide +kernel
theorem dX2_coming_155 : decode cX2_coming 155 = .ok (.ireturn, 1) := by decide +kernel
theorem dX2_coming_156 : decode cX2_coming 156 = .ok (.aload_n 0, 1) := by decide +kernel
theorem dX2_coming_157 : decode cX2_coming 157 = .ok (.getfield 24, 3) := by decide +kernel
theorem dX2_coming_160 : decode cX2_coming 160 = .ok (.bipush 6, 2) := by decide +kernel
theorem dX2_coming_162 : decode cX2_coming 162 = .ok (.invokevirtual 135, 3) := by decide +kernel
theorem dX2_coming_165 : decode cX2_coming 165 = .ok (.aload_n 0, 1) := by decide +kernel
theorem dX2_coming_166 : decode cX2_coming 166 = .ok (.getfield 20, 3) := by decide +kernel
theorem dX2_coming_169 : decode cX2_coming 169 = .ok (.bipush 6, 2) := by decide +kernel
theorem dX2_coming_171 : decode cX2_coming 171 = .ok (.invokevirtual 135, 3) := by decide +kernel
theorem dX2_coming_174 : decode cX2_coming 174 = .ok (.isub, 1) := by decide +kernel
theorem dX2_coming_175 : decode cX2_coming 175 = .ok (.ireturn, 1) := by decide +kernel
theorem dX2_coming_176 : decode cX2_coming 176 = .ok (.aload_n 0, 1) := by decide +kernel
theorem dX2_coming_177 : decode cX2_coming 177 = .ok (.getfield 24, 3) := by decide +kernel
theorem dX2_coming_180 : decode cX2_coming 180 = .ok (.iconst 2, 1) := by decide +kernel
theorem dX2_coming_181 : decode cX2_coming 181 = .ok (.invokevirtual 135, 3) := by decide +kernel
theorem dX2_coming_184 : decode cX2_coming 184 = .ok (.ireturn, 1) := by decide +kernel
theorem dX2_coming_185 : decode cX2_coming 185 = .ok (.iload_n 3, 1) := by decide +kernel
theorem dX2_coming_186 : decode cX2_coming 186 = .ok (.ireturn, 1) := by decide +kernel
theorem dX2_hitsIn_0 : decode cX2_hitsIn 0 = .ok (.aload_n 0, 1) := by decide +kernel
theorem dX2_hitsIn_1 : decode cX2_hitsIn 1 = .ok (.iload_n 1, 1) := by decide +kernel
theorem dX2_hitsIn_2 : decode cX2_hitsIn 2 = .ok (.invokevirtual 138, 3) := by decide +kernel
theorem dX2_hitsIn_5 : decode cX2_hitsIn 5 = .ok (.aload_n 0, 1) := by decide +kernel
theorem dX2_hitsIn_6 : decode cX2_hitsIn 6 = .ok (.getfield 24, 3) := by decide +kernel
theorem dX2_hitsIn_9 : decode cX2_hitsIn 9 = .ok (.aload_n 0, 1) := by decide +kernel
theorem dX2_hitsIn_10 : decode cX2_hitsIn 10 = .ok (.getfield 20, 3) := by decide +kernel
theorem dX2_hitsIn_13 : decode cX2_hitsIn 13 = .ok (.invokevirtual 220, 3) := by decide +kernel
theorem dX2_hitsIn_16 : decode cX2_hitsIn 16 = .ok (.aload_n 0, 1) := by decide +kernel
theorem dX2_hitsIn_17 : decode cX2_hitsIn 17 = .ok (.getfield 24, 3) := by decide +kernel
theorem dX2_hitsIn_20 : decode cX2_hitsIn 20 = .ok (.iload_n 1, 1) := by decide +kernel
theorem dX2_hitsIn_21 : decode cX2_hitsIn 21 = .ok (.iconst 1, 1) := by decide +kernel
theorem dX2_hitsIn_22 : decode cX2_hitsIn 22 = .ok (.invokevirtual 110, 3) := by decide +kernel
theorem dX2_hitsIn_25 : decode cX2_hitsIn 25 = .ok (.pop, 1) := by decide +kernel
theorem dX2_hitsIn_26 : decode cX2_hitsIn 26 = .ok (.aload_n 0, 1) := by decide +kernel
theorem dX2_hitsIn_27 : decode cX2_hitsIn 27 = .ok (.getfield 24, 3) := by decide +kernel
theorem dX2_hitsIn_30 : decode cX2_hitsIn 30 = .ok (.getfield 144, 3) := by decide +kernel
theorem dX2_hitsIn_33 : decode cX2_hitsIn 33 = .ok (.iload_n 1, 1) := by decide +kernel
theorem dX2_hitsIn_34 : decode cX2_hitsIn 34 = .ok (.aaload, 1) := by decide +kernel
theorem dX2_hitsIn_35 : decode cX2_hitsIn 35 = .ok (.astore_n 2, 1) := by decide +kernel
theorem dX2_hitsIn_36 : decode cX2_hitsIn 36 = .ok (.aload_n 2, 1) := by decide +kernel
theorem dX2_hitsIn_37 : decode cX2_hitsIn 37 = .ok (.getfield 236, 3) := by decide +kernel
theorem dX2_hitsIn_40 : decode cX2_hitsIn 40 = .ok (.istore_n 3, 1) := by decide +kernel
theorem dX2_hitsIn_41 : decode cX2_hitsIn 41 = .ok (.iconst 1, 1) := by decide +kernel
theorem dX2_hitsIn_42 : decode cX2_hitsIn 42 = .ok (.istore 4, 2) := by decide +kernel
theorem dX2_hitsIn_44 : decode cX2_hitsIn 44 = .ok (.iload 4, 2) := by decide +kernel
theorem dX2_hitsIn_46 : decode cX2_hitsIn 46 = .ok (.sipush 400, 3) := by decide +kernel
theorem dX2_hitsIn_49 : decode cX2_hitsIn 49 = .ok (.if_icmp .gt 31, 3) := by decide +kernel
theorem dX2_hitsIn_52 : decode cX2_hitsIn 52 = .ok (.aload_n 2, 1) := by decide +kernel
theorem dX2_hitsIn_53 : decode cX2_hitsIn 53 = .ok (.aload_n 0, 1) := by decide +kernel
theorem dX2_hitsIn_54 : decode cX2_hitsIn 54 = .ok (.getfield 24, 3) := by decide +kernel
theorem dX2_hitsIn_57 : decode cX2_hitsIn 57 = .ok (.getfield 168, 3) := by decide +kernel
theorem dX2_hitsIn_60 : decode cX2_hitsIn 60 = .ok (.invokevirtual 224, 3) := by decide +kernel
theorem dX2_hitsIn_63 : decode cX2_hitsIn 63 = .ok (.aload_n 2, 1) := by decide +kernel
theorem dX2_hitsIn_64 : decode cX2_hitsIn 64 = .ok (.getfield 236, 3) := by decide +kernel
theorem dX2_hitsIn_67 : decode cX2_hitsIn 67 = .ok (.iload_n 3, 1) := by decide +kernel
theorem dX2_hitsIn_68 : decode cX2_hitsIn 68 = .ok (.if_icmp .le 6, 3) := by decide +kernel
theorem dX2_hitsIn_71 : decode cX2_hitsIn 71 = .ok (.iload 4, 2) := by decide +kernel
theorem dX2_hitsIn_73 : decode cX2_hitsIn 73 = .ok (.ireturn, 1) := by decide +kernel
theorem dX2_hitsIn_74 : decode cX2_hitsIn 74 = .ok (.iinc 4 1, 3) := by decide +kernel
theorem dX2_hitsIn_77 : decode cX2_hitsIn 77 = .ok (.goto (-33), 3) := by decide +kernel
theorem dX2_hitsIn_80 : decode cX2_hitsIn 80 = .ok (.iconst (-1), 1) := by decide +kernel
theorem dX2_hitsIn_81 : decode cX2_hitsIn 81 = .ok (.ireturn, 1) := by decide +kernel
theorem dX2_copyThroughIn_0 : decode cX2_copyThroughIn 0 = .ok (.aload_n 0, 1) := by decide +kernel
theorem dX2_copyThroughIn_1 : decode cX2_copyThroughIn 1 = .ok (.getfield 24, 3) := by decide +kernel
theorem dX2_copyThroughIn_4 : decode cX2_copyThroughIn 4 = .ok (.getfield 144, 3) := by decide +kernel
theorem dX2_copyThroughIn_7 : decode cX2_copyThroughIn 7 = .ok (.iload_n 1, 1) := by decide +kernel
theorem dX2_copyThroughIn_8 : decode cX2_copyThroughIn 8 = .ok (.aaload, 1) := by decide +kernel
theorem dX2_copyThroughIn_9 : decode cX2_copyThroughIn 9 = .ok (.astore_n 3, 1) := by decide +kernel
theorem dX2_copyThroughIn_10 : decode cX2_copyThroughIn 10 = .ok (.aload_n 3, 1) := by decide +kernel
theorem dX2_copyThroughIn_11 : decode cX2_copyThroughIn 11 = .ok (.getfield 239, 3) := by decide +kernel
theorem dX2_copyThroughIn_14 : decode cX2_copyThroughIn 14 = .ok (.iload_n 2, 1) := by decide +kernel
theorem dX2_copyThroughIn_15 : decode cX2_copyThroughIn 15 = .ok (.iadd, 1) := by decide +kernel
theorem dX2_copyThroughIn_16 : decode cX2_copyThroughIn 16 = .ok (.istore 4, 2) := by decide +kernel
theorem dX2_copyThroughIn_18 : decode cX2_copyThroughIn 18 = .ok (.iconst 0, 1) := by decide +kernel
theorem dX2_copyThroughIn_19 : decode cX2_copyThroughIn 19 = .ok (.istore 5, 2) := by decide +kernel
theorem dX2_copyThroughIn_21 : decode cX2_copyThroughIn 21 = .ok (.iload 5, 2) := by decide +kernel
theorem dX2_copyThroughIn_23 : decode cX2_copyThroughIn 23 = .ok (.sipush 400, 3) := by decide +kernel
theorem dX2_copyThroughIn_26 : decode cX2_copyThroughIn 26 = .ok (.if_icmp .gt 37, 3) := by decide +kernel
theorem dX2_copyThroughIn_29 : decode cX2_copyThroughIn 29 = .ok (.aload_n 3, 1) := by decide +kernel
theorem dX2_copyThroughIn_30 : decode cX2_copyThroughIn 30 = .ok (.iload 4, 2) := by decide +kernel
theorem dX2_copyThroughIn_32 : decode cX2_copyThroughIn 32 = .ok (.aload_n 3, 1) := by decide +kernel
theorem dX2_copyThroughIn_33 : decode cX2_copyThroughIn 33 = .ok (.getfield 239, 3) := by decide +kernel
theorem dX2_copyThroughIn_36 : decode cX2_copyThroughIn 36 = .ok (.isub, 1) := by decide +kernel
theorem dX2_copyThroughIn_37 : decode cX2_copyThroughIn 37 = .ok (.invokevirtual 242, 3) := by decide +kernel
theorem dX2_copyThroughIn_40 : decode cX2_copyThroughIn 40 = .ok (.ifCond .eq 6, 3) := by decide +kernel
theorem dX2_copyThroughIn_43 : decode cX2_copyThroughIn 43 = .ok (.iload 5, 2) := by decide +kernel
theorem dX2_copyThroughIn_45 : decode cX2_copyThroughIn 45 = .ok (.ireturn, 1) := by decide +kernel
theorem dX2_copyThroughIn_46 : decode cX2_copyThroughIn 46 = .ok (.aload_n 3, 1) := by decide +kernel
theorem dX2_copyThroughIn_47 : decode cX2_copyThroughIn 47 = .ok (.aload_n 0, 1) := by decide +kernel
theorem dX2_copyThroughIn_48 : decode cX2_copyThroughIn 48 = .ok (.getfield 24, 3) := by decide +kernel
theorem dX2_copyThroughIn_51 : decode cX2_copyThroughIn 51 = .ok (.getfield 168, 3) := by decide +kernel
theorem dX2_copyThroughIn_54 : decode cX2_copyThroughIn 54 = .ok (.invokevirtual 224, 3) := by decide +kernel
theorem dX2_copyThroughIn_57 : decode cX2_copyThroughIn 57 = .ok (.iinc 5 1, 3) := by decide +kernel
theorem dX2_copyThroughIn_60 : decode cX2_copyThroughIn 60 = .ok (.goto (-39), 3) := by decide +kernel
theorem dX2_copyThroughIn_63 : decode cX2_copyThroughIn 63 = .ok (.iconst (-1), 1) := by decide +kernel
theorem dX2_copyThroughIn_64 : decode cX2_copyThroughIn 64 = .ok (.ireturn, 1) := by decide +kernel
theorem dX2_runScript_0 : decode cX2_runScript 0 = .ok (.iload_n 1, 1) := by decide +kernel
theorem dX2_runScript_1 : decode cX2_runScript 1 = .ok (.iconst 1, 1) := by decide +kernel
theorem dX2_runScript_2 : decode cX2_runScript 2 = .ok (.if_icmp .lt 8, 3) := by decide +kernel
theorem dX2_runScript_5 : decode cX2_runScript 5 = .ok (.iload_n 1, 1) := by decide +kernel
theorem dX2_runScript_6 : decode cX2_runScript 6 = .ok (.iconst 3, 1) := by decide +kernel
theorem dX2_runScript_7 : decode cX2_runScript 7 = .ok (.if_icmp .le 13, 3) := by decide +kernel
theorem dX2_runScript_10 : decode cX2_runScript 10 = .ok (.new 44, 3) := by decide +kernel
theorem dX2_runScript_13 : decode cX2_runScript 13 = .ok (.dup, 1) := by decide +kernel
theorem dX2_runScript_14 : decode cX2_runScript 14 = .ok (.ldc 245, 2) := by decide +kernel
theorem dX2_runScript_16 : decode cX2_runScript 16 = .ok (.invokespecial 48, 3) := by decide +kernel
theorem dX2_runScript_19 : decode cX2_runScript 19 = .ok (.athrow, 1) := by decide +kernel
theorem dX2_runScript_20 : decode cX2_runScript 20 = .ok (.lload_n 2, 1) := by decide +kernel
theorem dX2_runScript_21 : decode cX2_runScript 21 = .ok (.lconst 0, 1) := by decide +kernel
theorem dX2_runScript_22 : decode cX2_runScript 22 = .ok (.lcmp, 1) := by decide +kernel
theorem dX2_runScript_23 : decode cX2_runScript 23 = .ok (.ifCond .lt 13, 3) := by decide +kernel
theorem dX2_runScript_26 : decode cX2_runScript 26 = .ok (.lload_n 2, 1) := by decide +kernel
theorem dX2_runScript_27 : decode cX2_runScript 27 = .ok (.iload_n 1, 1) := by decide +kernel
theorem dX2_runScript_28 : decode cX2_runScript 28 = .ok (.invokestatic 247, 3) := by decide +kernel
theorem dX2_runScript_31 : decode cX2_runScript 31 = .ok (.lconst 0, 1) := by decide +kernel
theorem dX2_runScript_32 : decode cX2_runScript 32 = .ok (.lcmp, 1) := by decide +kernel
theorem dX2_runScript_33 : decode cX2_runScript 33 = .ok (.ifCond .eq 13, 3) := by decide +kernel
theorem dX2_runScript_36 : decode cX2_runScript 36 = .ok (.new 44, 3) := by decide +kernel
theorem dX2_runScript_39 : decode cX2_runScript 39 = .ok (.dup, 1) := by decide +kernel
theorem dX2_runScript_40 : decode cX2_runScript 40 = .ok (.ldc 251, 2) := by decide +kernel
theorem dX2_runScript_42 : decode cX2_runScript 42 = .ok (.invokespecial 48, 3) := by decide +kernel
theorem dX2_runScript_45 : decode cX2_runScript 45 = .ok (.athrow, 1) := by decide +kernel
theorem dX2_runScript_46 : decode cX2_runScript 46 = .ok (.aload_n 0, 1) := by decide +kernel
theorem dX2_runScript_47 : decode cX2_runScript 47 = .ok (.getfield 24, 3) := by decide +kernel
theorem dX2_runScript_50 : decode cX2_runScript 50 = .ok (.aload_n 0, 1) := by decide +kernel
theorem dX2_runScript_51 : decode cX2_runScript 51 = .ok (.getfield 20, 3) := by decide +kernel
theorem dX2_runScript_54 : decode cX2_runScript 54 = .ok (.invokevirtual 220, 3) := by decide +kernel
theorem dX2_runScript_57 : decode cX2_runScript 57 = .ok (.iconst 0, 1) := by decide +kernel
theorem dX2_runScript_58 : decode cX2_runScript 58 = .ok (.istore 4, 2) := by decide +kernel
theorem dX2_runScript_60 : decode cX2_runScript 60 = .ok (.iload 4, 2) := by decide +kernel
theorem dX2_runScript_62 : decode cX2_runScript 62 = .ok (.iload_n 1, 1) := by decide +kernel
theorem dX2_runScript_63 : decode cX2_runScript 63 = .ok (.if_icmp .ge 34, 3) := by decide +kernel
theorem dX2_runScript_66 : decode cX2_runScript 66 = .ok (.aload_n 0, 1) := by decide +kernel
theorem dX2_runScript_67 : decode cX2_runScript 67 = .ok (.lload_n 2, 1) := by decide +kernel
theorem dX2_runScript_68 : decode cX2_runScript 68 = .ok (.iload_n 1, 1) := by decide +kernel
theorem dX2_runScript_69 : decode cX2_runScript 69 = .ok (.iconst 1, 1) := by decide +kernel
theorem dX2_runScript_70 : decode cX2_runScript 70 = .ok (.isub, 1) := by decide +kernel
theorem dX2_runScript_71 : decode cX2_runScript 71 = .ok (.iload 4, 2) := by decide +kernel
theorem dX2_runScript_73 : decode cX2_runScript 73 = .ok (.isub, 1) := by decide +kernel
theorem dX2_runScript_74 : decode cX2_runScript 74 = .ok (.invokestatic 247, 3) := by decide +kernel
theorem dX2_runScript_77 : decode cX2_runScript 77 = .ok (.ldc2_w 253, 3) := by decide +kernel
theorem dX2_runScript_80 : decode cX2_runScript 80 = .ok (.lrem, 1) := by decide +kernel
theorem dX2_runScript_81 : decode cX2_runScript 81 = .ok (.l2i, 1) := by decide +kernel
theorem dX2_runScript_82 : decode cX2_runScript 82 = .ok (.invokevirtual 255, 3) := by decide +kernel
theorem dX2_runScript_85 : decode cX2_runScript 85 = .ok (.ifCond .ne 6, 3) := by decide +kernel
theorem dX2_runScript_88 : decode cX2_runScript 88 = .ok (.iload 4, 2) := by decide +kernel
theorem dX2_runScript_90 : decode cX2_runScript 90 = .ok (.ireturn, 1) := by decide +kernel
theorem dX2_runScript_91 : decode cX2_runScript 91 = .ok (.iinc 4 1, 3) := by decide +kernel
theorem dX2_runScript_94 : decode cX2_runScript 94 = .ok (.goto (-34), 3) := by decide +kernel
theorem dX2_runScript_97 : decode cX2_runScript 97 = .ok (.iconst (-1), 1) := by decide +kernel
theorem dX2_runScript_98 : decode cX2_runScript 98 = .ok (.ireturn, 1) := by decide +kernel
theorem dX2_simulate_0 : decode cX2_simulate 0 = .ok (.iload_n 3, 1) := by decide +kernel
theorem dX2_simulate_1 : decode cX2_simulate 1 = .ok (.iconst 1, 1) := by decide +kernel
theorem dX2_simulate_2 : decode cX2_simulate 2 = .ok (.if_icmp .lt 9, 3) := by decide +kernel
theorem dX2_simulate_5 : decode cX2_simulate 5 = .ok (.iload_n 3, 1) := by decide +kernel
theorem dX2_simulate_6 : decode cX2_simulate 6 = .ok (.bipush 60, 2) := by decide +kernel
theorem dX2_simulate_8 : decode cX2_simulate 8 = .ok (.if_icmp .le 14, 3) := by decide +kernel
theorem dX2_simulate_11 : decode cX2_simulate 11 = .ok (.new 44, 3) := by decide +kernel
theorem dX2_simulate_14 : decode cX2_simulate 14 = .ok (.dup, 1) := by decide +kernel
theorem dX2_simulate_15 : decode cX2_simulate 15 = .ok (.ldc_w 258, 3) := by decide +kernel
theorem dX2_simulate_18 : decode cX2_simulate 18 = .ok (.invokespecial 48, 3) := by decide +kernel
theorem dX2_simulate_21 : decode cX2_simulate 21 = .ok (.athrow, 1) := by decide +kernel
theorem dX2_simulate_22 : decode cX2_simulate 22 = .ok (.aload_n 0, 1) := by decide +kernel
theorem dX2_simulate_23 : decode cX2_simulate 23 = .ok (.getfield 24, 3) := by decide +kernel
theorem dX2_simulate_26 : decode cX2_simulate 26 = .ok (.aload_n 0, 1) := by decide +kernel
theorem dX2_simulate_27 : decode cX2_simulate 27 = .ok (.getfield 20, 3) := by decide +kernel
theorem dX2_simulate_30 : decode cX2_simulate 30 = .ok (.invokevirtual 220, 3) := by decide +kernel
theorem dX2_simulate_33 : decode cX2_simulate 33 = .ok (.lload_n 1, 1) := by decide +kernel
theorem dX2_simulate_34 : decode cX2_simulate 34 = .ok (.lstore 4, 2) := by decide +kernel
theorem dX2_simulate_36 : decode cX2_simulate 36 = .ok (.iconst 0, 1) := by decide +kernel
theorem dX2_simulate_37 : decode cX2_simulate 37 = .ok (.istore 6, 2) := by decide +kernel
theorem dX2_simulate_39 : decode cX2_simulate 39 = .ok (.iload 6, 2) := by decide +kernel
theorem dX2_simulate_41 : decode cX2_simulate 41 = .ok (.iload_n 3, 1) := by decide +kernel
theorem dX2_simulate_42 : decode cX2_simulate 42 = .ok (.if_icmp .ge 31, 3) := by decide +kernel
theorem dX2_simulate_45 : decode cX2_simulate 45 = .ok (.lload 4, 2) := by decide +kernel
theorem dX2_simulate_47 : decode cX2_simulate 47 = .ok (.ldc2_w 260, 3) := by decide +kernel
theorem dX2_simulate_50 : decode cX2_simulate 50 = .ok (.lmul, 1) := by decide +kernel
theorem dX2_simulate_51 : decode cX2_simulate 51 = .ok (.ldc2_w 262, 3) := by decide +kernel
theorem dX2_simulate_54 : decode cX2_simulate 54 = .ok (.ladd, 1) := by decide +kernel
theorem dX2_simulate_55 : decode cX2_simulate 55 = .ok (.lstore 4, 2) := by decide +kernel
theorem dX2_simulate_57 : decode cX2_simulate 57 = .ok (.aload_n 0, 1) := by decide +kernel
theorem dX2_simulate_58 : decode cX2_simulate 58 = .ok (.lload 4, 2) := by decide +kernel
theorem dX2_simulate_60 : decode cX2_simulate 60 = .ok (.bipush 33, 2) := by decide +kernel
theorem dX2_simulate_62 : decode cX2_simulate 62 = .ok (.lushr, 1) := by decide +kernel
theorem dX2_simulate_63 : decode cX2_simulate 63 = .ok (.l2i, 1) := by decide +kernel
theorem dX2_simulate_64 : decode cX2_simulate 64 = .ok (.invokevirtual 264, 3) := by decide +kernel
theorem dX2_simulate_67 : decode cX2_simulate 67 = .ok (.iinc 6 1, 3) := by decide +kernel
theorem dX2_simulate_70 : decode cX2_simulate 70 = .ok (.goto (-31), 3) := by decide +kernel
theorem dX2_simulate_73 : decode cX2_simulate 73 = .ok (.aload_n 0, 1) := by decide +kernel
theorem dX2_simulate_74 : decode cX2_simulate 74 = .ok (.getfield 24, 3) := by decide +kernel
theorem dX2_simulate_77 : decode cX2_simulate 77 = .ok (.bipush 6, 2) := by decide +kernel
theorem dX2_simulate_79 : decode cX2_simulate 79 = .ok (.invokevirtual 135, 3) := by decide +kernel
theorem dX2_simulate_82 : decode cX2_simulate 82 = .ok (.aload_n 0, 1) := by decide +kernel
theorem dX2_simulate_83 : decode cX2_simulate 83 = .ok (.getfield 20, 3) := by decide +kernel
theorem dX2_simulate_86 : decode cX2_simulate 86 = .ok (.bipush 6, 2) := by decide +kernel
theorem dX2_simulate_88 : decode cX2_simulate 88 = .ok (.invokevirtual 135, 3) := by decide +kernel
theorem dX2_simulate_91 : decode cX2_simulate 91 = .ok (.isub, 1) := by decide +kernel
theorem dX2_simulate_92 : decode cX2_simulate 92 = .ok (.istore 6, 2) := by decide +kernel
theorem dX2_simulate_94 : decode cX2_simulate 94 = .ok (.aload_n 0, 1) := by decide +kernel
theorem dX2_simulate_95 : decode cX2_simulate 95 = .ok (.getfield 24, 3) := by decide +kernel
theorem dX2_simulate_98 : decode cX2_simulate 98 = .ok (.iconst 5, 1) := by decide +kernel
theorem dX2_simulate_99 : decode cX2_simulate 99 = .ok (.invokevirtual 135, 3) := by decide +kernel
theorem dX2_simulate_102 : decode cX2_simulate 102 = .ok (.aload_n 0, 1) := by decide +kernel
theorem dX2_simulate_103 : decode cX2_simulate 103 = .ok (.getfield 20, 3) := by decide +kernel
theorem dX2_simulate_106 : decode cX2_simulate 106 = .ok (.iconst 5, 1) := by decide +kernel
theorem dX2_simulate_107 : decode cX2_simulate 107 = .ok (.invokevirtual 135, 3) := by decide +kernel
theorem dX2_simulate_110 : decode cX2_simulate 110 = .ok (.isub, 1) := by decide +kernel
theorem dX2_simulate_111 : decode cX2_simulate 111 = .ok (.istore 7, 2) := by decide +kernel
theorem dX2_simulate_113 : decode cX2_simulate 113 = .ok (.aload_n 0, 1) := by decide +kernel
theorem dX2_simulate_114 : decode cX2_simulate 114 = .ok (.getfield 24, 3) := by decide +kernel
theorem dX2_simulate_117 : decode cX2_simulate 117 = .ok (.iconst 3, 1) := by decide +kernel
theorem dX2_simulate_118 : decode cX2_simulate 118 = .ok (.invokevirtual 135, 3) := by decide +kernel
theorem dX2_simulate_121 : decode cX2_simulate 121 = .ok (.aload_n 0, 1) := by decide +kernel
theorem dX2_simulate_122 : decode cX2_simulate 122 = .ok (.getfield 20, 3) := by decide +kernel
theorem dX2_simulate_125 : decode cX2_simulate 125 = .ok (.iconst 3, 1) := by decide +kernel
theorem dX2_simulate_126 : decode cX2_simulate 126 = .ok (.invokevirtual 135, 3) := by decide +kernel
theorem dX2_simulate_129 : decode cX2_simulate 129 = .ok (.isub, 1) := by decide +kernel
theorem dX2_simulate_130 : decode cX2_simulate 130 = .ok (.istore 8, 2) := by decide +kernel
theorem dX2_simulate_132 : decode cX2_simulate 132 = .ok (.sipush 10000, 3) := by decide +kernel
theorem dX2_simulate_135 : decode cX2_simulate 135 = .ok (.iload 6, 2) := by decide +kernel
theorem dX2_simulate_137 : decode cX2_simulate 137 = .ok (.imul, 1) := by decide +kernel
theorem dX2_simulate_138 : decode cX2_simulate 138 = .ok (.bipush 100, 2) := by decide +kernel
theorem dX2_simulate_140 : decode cX2_simulate 140 = .ok (.iload 7, 2) := by decide +kernel
theorem dX2_simulate_142 : decode cX2_simulate 142 = .ok (.imul, 1) := by decide +kernel
theorem dX2_simulate_143 : decode cX2_simulate 143 = .ok (.iadd, 1) := by decide +kernel
theorem dX2_simulate_144 : decode cX2_simulate 144 = .ok (.iload 8, 2) := by decide +kernel
theorem dX2_simulate_146 : decode cX2_simulate 146 = .ok (.bipush 99, 2) := by decide +kernel
theorem dX2_simulate_148 : decode cX2_simulate 148 = .ok (.invokestatic 267, 3) := by decide +kernel
theorem dX2_simulate_151 : decode cX2_simulate 151 = .ok (.iadd, 1) := by decide +kernel
theorem dX2_simulate_152 : decode cX2_simulate 152 = .ok (.ireturn, 1) := by decide +kernel
theorem dX2_withoutGroups_0 : decode cX2_withoutGroups 0 = .ok (.lload_n 0, 1) := by decide +kernel
theorem dX2_withoutGroups_1 : decode cX2_withoutGroups 1 = .ok (.lstore_n 3, 1) := by decide +kernel
theorem dX2_withoutGroups_2 : decode cX2_withoutGroups 2 = .ok (.iconst 0, 1) := by decide +kernel
theorem dX2_withoutGroups_3 : decode cX2_withoutGroups 3 = .ok (.istore 5, 2) := by decide +kernel
theorem dX2_withoutGroups_5 : decode cX2_withoutGroups 5 = .ok (.iload 5, 2) := by decide +kernel
theorem dX2_withoutGroups_7 : decode cX2_withoutGroups 7 = .ok (.iload_n 2, 1) := by decide +kernel
theorem dX2_withoutGroups_8 : decode cX2_withoutGroups 8 = .ok (.if_icmp .ge 15, 3) := by decide +kernel
theorem dX2_withoutGroups_11 : decode cX2_withoutGroups 11 = .ok (.lload_n 3, 1) := by decide +kernel
theorem dX2_withoutGroups_12 : decode cX2_withoutGroups 12 = .ok (.ldc2_w 253, 3) := by decide +kernel
theorem dX2_withoutGroups_15 : decode cX2_withoutGroups 15 = .ok (.ldiv, 1) := by decide +kernel
theorem dX2_withoutGroups_16 : decode cX2_withoutGroups 16 = .ok (.lstore_n 3, 1) := by decide +kernel
theorem dX2_withoutGroups_17 : decode cX2_withoutGroups 17 = .ok (.iinc 5 1, 3) := by decide +kernel
theorem dX2_withoutGroups_20 : decode cX2_withoutGroups 20 = .ok (.goto (-15), 3) := by decide +kernel
theorem dX2_withoutGroups_23 : decode cX2_withoutGroups 23 = .ok (.lload_n 3, 1) := by decide +kernel
theorem dX2_withoutGroups_24 : decode cX2_withoutGroups 24 = .ok (.lreturn, 1) := by decide +kernel
theorem dX2_doGroup_0 : decode cX2_doGroup 0 = .ok (.iload_n 1, 1) := by decide +kernel
theorem dX2_doGroup_1 : decode cX2_doGroup 1 = .ok (.sipush 1000, 3) := by decide +kernel
theorem dX2_doGroup_4 : decode cX2_doGroup 4 = .ok (.idiv, 1) := by decide +kernel
theorem dX2_doGroup_5 : decode cX2_doGroup 5 = .ok (.bipush 10, 2) := by decide +kernel
theorem dX2_doGroup_7 : decode cX2_doGroup 7 = .ok (.irem, 1) := by decide +kernel
theorem dX2_doGroup_8 : decode cX2_doGroup 8 = .ok (.istore_n 2, 1) := by decide +kernel
theorem dX2_doGroup_9 : decode cX2_doGroup 9 = .ok (.iload_n 1, 1) := by decide +kernel
theorem dX2_doGroup_10 : decode cX2_doGroup 10 = .ok (.bipush 100, 2) := by decide +kernel
theorem dX2_doGroup_12 : decode cX2_doGroup 12 = .ok (.idiv, 1) := by decide +kernel
theorem dX2_doGroup_13 : decode cX2_doGroup 13 = .ok (.bipush 10, 2) := by decide +kernel
theorem dX2_doGroup_15 : decode cX2_doGroup 15 = .ok (.irem, 1) := by decide +kernel
theorem dX2_doGroup_16 : decode cX2_doGroup 16 = .ok (.istore_n 3, 1) := by decide +kernel
theorem dX2_doGroup_17 : decode cX2_doGroup 17 = .ok (.iload_n 1, 1) := by decide +kernel
theorem dX2_doGroup_18 : decode cX2_doGroup 18 = .ok (.bipush 10, 2) := by decide +kernel
theorem dX2_doGroup_20 : decode cX2_doGroup 20 = .ok (.idiv, 1) := by decide +kernel
theorem dX2_doGroup_21 : decode cX2_doGroup 21 = .ok (.bipush 10, 2) := by decide +kernel
theorem dX2_doGroup_23 : decode cX2_doGroup 23 = .ok (.irem, 1) := by decide +kernel
theorem dX2_doGroup_24 : decode cX2_doGroup 24 = .ok (.istore 4, 2) := by decide +kernel
theorem dX2_doGroup_26 : decode cX2_doGroup 26 = .ok (.iload_n 1, 1) := by decide +kernel
theorem dX2_doGroup_27 : decode cX2_doGroup 27 = .ok (.bipush 10, 2) := by decide +kernel
theorem dX2_doGroup_29 : decode cX2_doGroup 29 = .ok (.irem, 1) := by decide +kernel
theorem dX2_doGroup_30 : decode cX2_doGroup 30 = .ok (.istore 5, 2) := by decide +kernel
theorem dX2_doGroup_32 : decode cX2_doGroup 32 = .ok (.iload_n 1, 1) := by decide +kernel
theorem dX2_doGroup_33 : decode cX2_doGroup 33 = .ok (.sipush 10000, 3) := by decide +kernel
theorem dX2_doGroup_36 : decode cX2_doGroup 36 = .ok (.idiv, 1) := by decide +kernel
theorem dX2_doGroup_37 : decode cX2_doGroup 37 = .ok (.tableswitch 405 1 9 #[51, 109, 141, 183, 214, 243, 286, 329, 362], 51) := by decide +kernel
theorem dX2_doGroup_88 : decode cX2_doGroup 88 = .ok (.iload 5, 2) := by decide +kernel
theorem dX2_doGroup_90 : decode cX2_doGroup 90 = .ok (.iconst 3, 1) := by decide +kernel
theorem dX2_doGroup_91 : decode cX2_doGroup 91 = .ok (.if_icmp .gt 53, 3) := by decide +kernel
theorem dX2_doGroup_94 : decode cX2_doGroup 94 = .ok (.aload_n 0, 1) := by decide +kernel
theorem dX2_doGroup_95 : decode cX2_doGroup 95 = .ok (.getfield 24, 3) := by decide +kernel
theorem dX2_doGroup_98 : decode cX2_doGroup 98 = .ok (.iload_n 2, 1) := by decide +kernel
theorem dX2_doGroup_99 : decode cX2_doGroup 99 = .ok (.bipush 10, 2) := by decide +kernel
theorem dX2_doGroup_101 : decode cX2_doGroup 101 = .ok (.iload_n 3, 1) := by decide +kernel
theorem dX2_doGroup_102 : decode cX2_doGroup 102 = .ok (.imul, 1) := by decide +kernel
theorem dX2_doGroup_103 : decode cX2_doGroup 103 = .ok (.iload 4, 2) := by decide +kernel
theorem dX2_doGroup_105 : decode cX2_doGroup 105 = .ok (.iadd, 1) := by decide +kernel
theorem dX2_doGroup_106 : decode cX2_doGroup 106 = .ok (.iload 5, 2) := by decide +kernel
theorem dX2_doGroup_108 : decode cX2_doGroup 108 = .ok (.iconst 1, 1) := by decide +kernel
theorem dX2_doGroup_109 : decode cX2_doGroup 109 = .ok (.if_icmp .eq 9, 3) := by decide +kernel
theorem dX2_doGroup_112 : decode cX2_doGroup 112 = .ok (.iload 5, 2) := by decide +kernel
theorem dX2_doGroup_114 : decode cX2_doGroup 114 = .ok (.iconst 3, 1) := by decide +kernel
theorem dX2_doGroup_115 : decode cX2_doGroup 115 = .ok (.if_icmp .ne 7, 3) := by decide +kernel
theorem dX2_doGroup_118 : decode cX2_doGroup 118 = .ok (.iconst 1, 1) := by decide +kernel
theorem dX2_doGroup_119 : decode cX2_doGroup 119 = .ok (.goto 4, 3) := by decide +kernel
theorem dX2_doGroup_122 : decode cX2_doGroup 122 = .ok (.iconst 0, 1) := by decide +kernel
theorem dX2_doGroup_123 : decode cX2_doGroup 123 = .ok (.iload 5, 2) := by decide +kernel
theorem dX2_doGroup_125 : decode cX2_doGroup 125 = .ok (.iconst 2, 1) := by decide +kernel
theorem dX2_doGroup_126 : decode cX2_doGroup 126 = .ok (.if_icmp .lt 7, 3) := by decide +kernel
theorem dX2_doGroup_129 : decode cX2_doGroup 129 = .ok (.iconst 1, 1) := by decide +kernel
theorem dX2_doGroup_130 : decode cX2_doGroup 130 = .ok (.goto 4, 3) := by decide +kernel
theorem dX2_doGroup_133 : decode cX2_doGroup 133 = .ok (.iconst 0, 1) := by decide +kernel
theorem dX2_doGroup_134 : decode cX2_doGroup 134 = .ok (.invokevirtual 123, 3) := by decide +kernel
theorem dX2_doGroup_137 : decode cX2_doGroup 137 = .ok (.ifCond .eq 7, 3) := by decide +kernel
theorem dX2_doGroup_140 : decode cX2_doGroup 140 = .ok (.iconst 1, 1) := by decide +kernel
theorem dX2_doGroup_141 : decode cX2_doGroup 141 = .ok (.goto 4, 3) := by decide +kernel
theorem dX2_doGroup_144 : decode cX2_doGroup 144 = .ok (.iconst 0, 1) := by decide +kernel
theorem dX2_doGroup_145 : decode cX2_doGroup 145 = .ok (.ireturn, 1) := by decide +kernel
theorem dX2_doGroup_146 : decode cX2_doGroup 146 = .ok (.iload_n 2, 1) := by decide +kernel
theorem dX2_doGroup_147 : decode cX2_doGroup 147 = .ok (.ifCond .ne 29, 3) := by decide +kernel
theorem dX2_doGroup_150 : decode cX2_doGroup 150 = .ok (.iload_n 3, 1) := by decide +kernel
theorem dX2_doGroup_151 : decode cX2_doGroup 151 = .ok (.ifCond .ne 25, 3) := by decide +kernel
theorem dX2_doGroup_154 : decode cX2_doGroup 154 = .ok (.aload_n 0, 1) := by decide +kernel
theorem dX2_doGroup_155 : decode cX2_doGroup 155 = .ok (.getfield 24, 3) := by decide +kernel
theorem dX2_doGroup_158 : decode cX2_doGroup 158 = .ok (.bipush 10, 2) := by decide +kernel
theorem dX2_doGroup_160 : decode cX2_doGroup 160 = .ok (.iload 4, 2) := by decide +kernel
theorem dX2_doGroup_162 : decode cX2_doGroup 162 = .ok (.imul, 1) := by decide +kernel
theorem dX2_doGroup_163 : decode cX2_doGroup 163 = .ok (.iload 5, 2) := by decide +kernel
theorem dX2_doGroup_165 : decode cX2_doGroup 165 = .ok (.iadd, 1) := by decide +kernel
theorem dX2_doGroup_166 : decode cX2_doGroup 166 = .ok (.invokevirtual 120, 3) := by decide +kernel
theorem dX2_doGroup_169 : decode cX2_doGroup 169 = .ok (.ifCond .eq 7, 3) := by decide +kernel
theorem dX2_doGroup_172 : decode cX2_doGroup 172 = .ok (.iconst 1, 1) := by decide +kernel
theorem dX2_doGroup_173 : decode cX2_doGroup 173 = .ok (.goto 4, 3) := by decide +kernel
theorem dX2_doGroup_176 : decode cX2_doGroup 176 = .ok (.iconst 0, 1) := by decide +kernel
theorem dX2_doGroup_177 : decode cX2_doGroup 177 = .ok (.ireturn, 1) := by decide +kernel
theorem dX2_doGroup_178 : decode cX2_doGroup 178 = .ok (.iload_n 3, 1) := by decide +kernel
theorem dX2_doGroup_179 : decode cX2_doGroup 179 = .ok (.iconst 1, 1) := by decide +kernel
theorem dX2_doGroup_180 : decode cX2_doGroup 180 = .ok (.if_icmp .gt 38, 3) := by decide +kernel
theorem dX2_doGroup_183 : decode cX2_doGroup 183 = .ok (.iload 4, 2) := by decide +kernel
theorem dX2_doGroup_185 : decode cX2_doGroup 185 = .ok (.ifCond .ne 33, 3) := by decide +kernel
theorem dX2_doGroup_188 : decode cX2_doGroup 188 = .ok (.iload 5, 2) := by decide +kernel
theorem dX2_doGroup_190 : decode cX2_doGroup 190 = .ok (.ifCond .ne 28, 3) := by decide +kernel
theorem dX2_doGroup_193 : decode cX2_doGroup 193 = .ok (.aload_n 0, 1) := by decide +kernel
theorem dX2_doGroup_194 : decode cX2_doGroup 194 = .ok (.getfield 24, 3) := by decide +kernel
theorem dX2_doGroup_197 : decode cX2_doGroup 197 = .ok (.iload_n 2, 1) := by decide +kernel
theorem dX2_doGroup_198 : decode cX2_doGroup 198 = .ok (.iload_n 3, 1) := by decide +kernel
theorem dX2_doGroup_199 : decode cX2_doGroup 199 = .ok (.iconst 1, 1) := by decide +kernel
theorem dX2_doGroup_200 : decode cX2_doGroup 200 = .ok (.if_icmp .ne 7, 3) := by decide +kernel
theorem dX2_doGroup_203 : decode cX2_doGroup 203 = .ok (.iconst 1, 1) := by decide +kernel
theorem dX2_doGroup_204 : decode cX2_doGroup 204 = .ok (.goto 4, 3) := by decide +kernel
theorem dX2_doGroup_207 : decode cX2_doGroup 207 = .ok (.iconst 0, 1) := by decide +kernel
theorem dX2_doGroup_208 : decode cX2_doGroup 208 = .ok (.invokevirtual 110, 3) := by decide +kernel
theorem dX2_doGroup_211 : decode cX2_doGroup 211 = .ok (.ifCond .eq 7, 3) := by decide +kernel
theorem dX2_doGroup_214 : decode cX2_doGroup 214 = .ok (.iconst 1, 1) := by decide +kernel
theorem dX2_doGroup_215 : decode cX2_doGroup 215 = .ok (.goto 4, 3) := by decide +kernel
theorem dX2_doGroup_218 : decode cX2_doGroup 218 = .ok (.iconst 0, 1) := by decide +kernel
theorem dX2_doGroup_219 : decode cX2_doGroup 219 = .ok (.ireturn, 1) := by decide +kernel
theorem dX2_doGroup_220 : decode cX2_doGroup 220 = .ok (.iload_n 3, 1) := by decide +kernel
theorem dX2_doGroup_221 : decode cX2_doGroup 221 = .ok (.ifCond .ne 28, 3) := by decide +kernel
theorem dX2_doGroup_224 : decode cX2_doGroup 224 = .ok (.iload 4, 2) := by decide +kernel
theorem dX2_doGroup_226 : decode cX2_doGroup 226 = .ok (.ifCond .ne 23, 3) := by decide +kernel
theorem dX2_doGroup_229 : decode cX2_doGroup 229 = .ok (.iload 5, 2) := by decide +kernel
theorem dX2_doGroup_231 : decode cX2_doGroup 231 = .ok (.ifCond .ne 18, 3) := by decide +kernel
theorem dX2_doGroup_234 : decode cX2_doGroup 234 = .ok (.aload_n 0, 1) := by decide +kernel
theorem dX2_doGroup_235 : decode cX2_doGroup 235 = .ok (.getfield 24, 3) := by decide +kernel
theorem dX2_doGroup_238 : decode cX2_doGroup 238 = .ok (.iload_n 2, 1) := by decide +kernel
theorem dX2_doGroup_239 : decode cX2_doGroup 239 = .ok (.invokevirtual 114, 3) := by decide +kernel
theorem dX2_doGroup_242 : decode cX2_doGroup 242 = .ok (.ifCond .eq 7, 3) := by decide +kernel
theorem dX2_doGroup_245 : decode cX2_doGroup 245 = .ok (.iconst 1, 1) := by decide +kernel
theorem dX2_doGroup_246 : decode cX2_doGroup 246 = .ok (.goto 4, 3) := by decide +kernel
theorem dX2_doGroup_249 : decode cX2_doGroup 249 = .ok (.iconst 0, 1) := by decide +kernel
theorem dX2_doGroup_250 : decode cX2_doGroup 250 = .ok (.ireturn, 1) := by decide +kernel
theorem dX2_doGroup_251 : decode cX2_doGroup 251 = .ok (.iload 5, 2) := by decide +kernel
theorem dX2_doGroup_253 : decode cX2_doGroup 253 = .ok (.ifCond .ne 25, 3) := by decide +kernel
theorem dX2_doGroup_256 : decode cX2_doGroup 256 = .ok (.aload_n 0, 1) := by decide +kernel
theorem dX2_doGroup_257 : decode cX2_doGroup 257 = .ok (.getfield 24, 3) := by decide +kernel
theorem dX2_doGroup_260 : decode cX2_doGroup 260 = .ok (.iload_n 2, 1) := by decide +kernel
theorem dX2_doGroup_261 : decode cX2_doGroup 261 = .ok (.bipush 10, 2) := by decide +kernel
theorem dX2_doGroup_263 : decode cX2_doGroup 263 = .ok (.iload_n 3, 1) := by decide +kernel
theorem dX2_doGroup_264 : decode cX2_doGroup 264 = .ok (.imul, 1) := by decide +kernel
theorem dX2_doGroup_265 : decode cX2_doGroup 265 = .ok (.iload 4, 2) := by decide +kernel
theorem dX2_doGroup_267 : decode cX2_doGroup 267 = .ok (.iadd, 1) := by decide +kernel
theorem dX2_doGroup_268 : decode cX2_doGroup 268 = .ok (.invokevirtual 215, 3) := by decide +kernel
theorem dX2_doGroup_271 : decode cX2_doGroup 271 = .ok (.ifCond .eq 7, 3) := by decide +kernel
theorem dX2_doGroup_274 : decode cX2_doGroup 274 = .ok (.iconst 1, 1) := by decide +kernel
theorem dX2_doGroup_275 : decode cX2_doGroup 275 = .ok (.goto 4, 3) := by decide +kernel
theorem dX2_doGroup_278 : decode cX2_doGroup 278 = .ok (.iconst 0, 1) := by decide +kernel
theorem dX2_doGroup_279 : decode cX2_doGroup 279 = .ok (.ireturn, 1) := by decide +kernel
theorem dX2_doGroup_280 : decode cX2_doGroup 280 = .ok (.iload 4, 2) := by decide +kernel
theorem dX2_doGroup_282 : decode cX2_doGroup 282 = .ok (.ifCond .ne 39, 3) := by decide +kernel
theorem dX2_doGroup_285 : decode cX2_doGroup 285 = .ok (.iload 5, 2) := by decide +kernel
theorem dX2_doGroup_287 : decode cX2_doGroup 287 = .ok (.ifCond .ne 34, 3) := by decide +kernel
theorem dX2_doGroup_290 : decode cX2_doGroup 290 = .ok (.aload_n 0, 1) := by decide +kernel
theorem dX2_doGroup_291 : decode cX2_doGroup 291 = .ok (.getfield 24, 3) := by decide +kernel
theorem dX2_doGroup_294 : decode cX2_doGroup 294 = .ok (.iload_n 2, 1) := by decide +kernel
theorem dX2_doGroup_295 : decode cX2_doGroup 295 = .ok (.invokevirtual 172, 3) := by decide +kernel
theorem dX2_doGroup_298 : decode cX2_doGroup 298 = .ok (.ifCond .eq 23, 3) := by decide +kernel
theorem dX2_doGroup_301 : decode cX2_doGroup 301 = .ok (.aload_n 0, 1) := by decide +kernel
theorem dX2_doGroup_302 : decode cX2_doGroup 302 = .ok (.getfield 24, 3) := by decide +kernel
theorem dX2_doGroup_305 : decode cX2_doGroup 305 = .ok (.getfield 144, 3) := by decide +kernel
theorem dX2_doGroup_308 : decode cX2_doGroup 308 = .ok (.iload_n 2, 1) := by decide +kernel
theorem dX2_doGroup_309 : decode cX2_doGroup 309 = .ok (.aaload, 1) := by decide +kernel
theorem dX2_doGroup_310 : decode cX2_doGroup 310 = .ok (.getfield 205, 3) := by decide +kernel
theorem dX2_doGroup_313 : decode cX2_doGroup 313 = .ok (.iload_n 3, 1) := by decide +kernel
theorem dX2_doGroup_314 : decode cX2_doGroup 314 = .ok (.if_icmp .ne 7, 3) := by decide +kernel
theorem dX2_doGroup_317 : decode cX2_doGroup 317 = .ok (.iconst 1, 1) := by decide +kernel
theorem dX2_doGroup_318 : decode cX2_doGroup 318 = .ok (.goto 4, 3) := by decide +kernel
theorem dX2_doGroup_321 : decode cX2_doGroup 321 = .ok (.iconst 0, 1) := by decide +kernel
theorem dX2_doGroup_322 : decode cX2_doGroup 322 = .ok (.ireturn, 1) := by decide +kernel
theorem dX2_doGroup_323 : decode cX2_doGroup 323 = .ok (.iload_n 3, 1) := by decide +kernel
theorem dX2_doGroup_324 : decode cX2_doGroup 324 = .ok (.ifCond .ne 40, 3) := by decide +kernel
theorem dX2_doGroup_327 : decode cX2_doGroup 327 = .ok (.iload 4, 2) := by decide +kernel
theorem dX2_doGroup_329 : decode cX2_doGroup 329 = .ok (.ifCond .ne 35, 3) := by decide +kernel
theorem dX2_doGroup_332 : decode cX2_doGroup 332 = .ok (.aload_n 0, 1) := by decide +kernel
theorem dX2_doGroup_333 : decode cX2_doGroup 333 = .ok (.getfield 24, 3) := by decide +kernel
theorem dX2_doGroup_336 : decode cX2_doGroup 336 = .ok (.iload_n 2, 1) := by decide +kernel
theorem dX2_doGroup_337 : decode cX2_doGroup 337 = .ok (.invokevirtual 172, 3) := by decide +kernel
theorem dX2_doGroup_340 : decode cX2_doGroup 340 = .ok (.ifCond .eq 24, 3) := by decide +kernel
theorem dX2_doGroup_343 : decode cX2_doGroup 343 = .ok (.aload_n 0, 1) := by decide +kernel
theorem dX2_doGroup_344 : decode cX2_doGroup 344 = .ok (.getfield 24, 3) := by decide +kernel
theorem dX2_doGroup_347 : decode cX2_doGroup 347 = .ok (.getfield 144, 3) := by decide +kernel
theorem dX2_doGroup_350 : decode cX2_doGroup 350 = .ok (.iload_n 2, 1) := by decide +kernel
theorem dX2_doGroup_351 : decode cX2_doGroup 351 = .ok (.aaload, 1) := by decide +kernel
theorem dX2_doGroup_352 : decode cX2_doGroup 352 = .ok (.getfield 195, 3) := by decide +kernel
theorem dX2_doGroup_355 : decode cX2_doGroup 355 = .ok (.iload 5, 2) := by decide +kernel
theorem dX2_doGroup_357 : decode cX2_doGroup 357 = .ok (.if_icmp .gt 7, 3) := by decide +kernel
theorem dX2_doGroup_360 : decode cX2_doGroup 360 = .ok (.iconst 1, 1) := by decide +kernel
theorem dX2_doGroup_361 : decode cX2_doGroup 361 = .ok (.goto 4, 3) := by decide +kernel
theorem dX2_doGroup_364 : decode cX2_doGroup 364 = .ok (.iconst 0, 1) := by decide +kernel
theorem dX2_doGroup_365 : decode cX2_doGroup 365 = .ok (.ireturn, 1) := by decide +kernel
theorem dX2_doGroup_366 : decode cX2_doGroup 366 = .ok (.iload_n 2, 1) := by decide +kernel
theorem dX2_doGroup_367 : decode cX2_doGroup 367 = .ok (.ifCond .ne 30, 3) := by decide +kernel
theorem dX2_doGroup_370 : decode cX2_doGroup 370 = .ok (.iload_n 3, 1) := by decide +kernel
theorem dX2_doGroup_371 : decode cX2_doGroup 371 = .ok (.ifCond .ne 26, 3) := by decide +kernel
theorem dX2_doGroup_374 : decode cX2_doGroup 374 = .ok (.aload_n 0, 1) := by decide +kernel
theorem dX2_doGroup_375 : decode cX2_doGroup 375 = .ok (.getfield 24, 3) := by decide +kernel
theorem dX2_doGroup_378 : decode cX2_doGroup 378 = .ok (.iconst 5, 1) := by decide +kernel
theorem dX2_doGroup_379 : decode cX2_doGroup 379 = .ok (.invokevirtual 135, 3) := by decide +kernel
theorem dX2_doGroup_382 : decode cX2_doGroup 382 = .ok (.bipush 10, 2) := by decide +kernel
theorem dX2_doGroup_384 : decode cX2_doGroup 384 = .ok (.iload 4, 2) := by decide +kernel
theorem dX2_doGroup_386 : decode cX2_doGroup 386 = .ok (.imul, 1) := by decide +kernel
theorem dX2_doGroup_387 : decode cX2_doGroup 387 = .ok (.iload 5, 2) := by decide +kernel
theorem dX2_doGroup_389 : decode cX2_doGroup 389 = .ok (.iadd, 1) := by decide +kernel
theorem dX2_doGroup_390 : decode cX2_doGroup 390 = .ok (.if_icmp .gt 7, 3) := by decide +kernel
theorem dX2_doGroup_393 : decode cX2_doGroup 393 = .ok (.iconst 1, 1) := by decide +kernel
theorem dX2_doGroup_394 : decode cX2_doGroup 394 = .ok (.goto 4, 3) := by decide +kernel
theorem dX2_doGroup_397 : decode cX2_doGroup 397 = .ok (.iconst 0, 1) := by decide +kernel
theorem dX2_doGroup_398 : decode cX2_doGroup 398 = .ok (.ireturn, 1) := by decide +kernel
theorem dX2_doGroup_399 : decode cX2_doGroup 399 = .ok (.iload_n 3, 1) := by decide +kernel
theorem dX2_doGroup_400 : decode cX2_doGroup 400 = .ok (.ifCond .ne 40, 3) := by decide +kernel
theorem dX2_doGroup_403 : decode cX2_doGroup 403 = .ok (.iload 4, 2) := by decide +kernel
theorem dX2_doGroup_405 : decode cX2_doGroup 405 = .ok (.ifCond .ne 35, 3) := by decide +kernel
theorem dX2_doGroup_408 : decode cX2_doGroup 408 = .ok (.aload_n 0, 1) := by decide +kernel
theorem dX2_doGroup_409 : decode cX2_doGroup 409 = .ok (.getfield 24, 3) := by decide +kernel
theorem dX2_doGroup_412 : decode cX2_doGroup 412 = .ok (.iload_n 2, 1) := by decide +kernel
theorem dX2_doGroup_413 : decode cX2_doGroup 413 = .ok (.invokevirtual 172, 3) := by decide +kernel
theorem dX2_doGroup_416 : decode cX2_doGroup 416 = .ok (.ifCond .eq 24, 3) := by decide +kernel
theorem dX2_doGroup_419 : decode cX2_doGroup 419 = .ok (.aload_n 0, 1) := by decide +kernel
theorem dX2_doGroup_420 : decode cX2_doGroup 420 = .ok (.getfield 24, 3) := by decide +kernel
theorem dX2_doGroup_423 : decode cX2_doGroup 423 = .ok (.getfield 144, 3) := by decide +kernel
theorem dX2_doGroup_426 : decode cX2_doGroup 426 = .ok (.iload_n 2, 1) := by decide +kernel
theorem dX2_doGroup_427 : decode cX2_doGroup 427 = .ok (.aaload, 1) := by decide +kernel
theorem dX2_doGroup_428 : decode cX2_doGroup 428 = .ok (.invokevirtual 163, 3) := by decide +kernel
theorem dX2_doGroup_431 : decode cX2_doGroup 431 = .ok (.iload 5, 2) := by decide +kernel
theorem dX2_doGroup_433 : decode cX2_doGroup 433 = .ok (.if_icmp .ne 7, 3) := by decide +kernel
theorem dX2_doGroup_436 : decode cX2_doGroup 436 = .ok (.iconst 1, 1) := by decide +kernel
theorem dX2_doGroup_437 : decode cX2_doGroup 437 = .ok (.goto 4, 3) := by decide +kernel
theorem dX2_doGroup_440 : decode cX2_doGroup 440 = .ok (.iconst 0, 1) := by decide +kernel
theorem dX2_doGroup_441 : decode cX2_doGroup 441 = .ok (.ireturn, 1) := by decide +kernel
theorem dX2_doGroup_442 : decode cX2_doGroup 442 = .ok (.iconst 0, 1) := by decide +kernel
theorem dX2_doGroup_443 : decode cX2_doGroup 443 = .ok (.ireturn, 1) := by decide +kernel
theorem dX2_doTurn_0 : decode cX2_doTurn 0 = .ok (.iload_n 1, 1) := by decide +kernel
theorem dX2_doTurn_1 : decode cX2_doTurn 1 = .ok (.bipush 8, 2) := by decide +kernel
theorem dX2_doTurn_3 : decode cX2_doTurn 3 = .ok (.idiv, 1) := by decide +kernel
theorem dX2_doTurn_4 : decode cX2_doTurn 4 = .ok (.istore_n 2, 1) := by decide +kernel
theorem dX2_doTurn_5 : decode cX2_doTurn 5 = .ok (.iload_n 1, 1) := by decide +kernel
theorem dX2_doTurn_6 : decode cX2_doTurn 6 = .ok (.bipush 8, 2) := by decide +kernel
theorem dX2_doTurn_8 : decode cX2_doTurn 8 = .ok (.irem, 1) := by decide +kernel
theorem dX2_doTurn_9 : decode cX2_doTurn 9 = .ok (.tableswitch 128 0 4 #[35, 35, 35, 87, 114], 35) := by decide +kernel
theorem dX2_doTurn_44 : decode cX2_doTurn 44 = .ok (.aload_n 0, 1) := by decide +kernel
theorem dX2_doTurn_45 : decode cX2_doTurn 45 = .ok (.getfield 24, 3) := by decide +kernel
theorem dX2_doTurn_48 : decode cX2_doTurn 48 = .ok (.iload_n 2, 1) := by decide +kernel
theorem dX2_doTurn_49 : decode cX2_doTurn 49 = .ok (.iconst 3, 1) := by decide +kernel
theorem dX2_doTurn_50 : decode cX2_doTurn 50 = .ok (.irem, 1) := by decide +kernel
theorem dX2_doTurn_51 : decode cX2_doTurn 51 = .ok (.iconst 2, 1) := by decide +kernel
theorem dX2_doTurn_52 : decode cX2_doTurn 52 = .ok (.iload_n 2, 1) := by decide +kernel
theorem dX2_doTurn_53 : decode cX2_doTurn 53 = .ok (.iconst 4, 1) := by decide +kernel
theorem dX2_doTurn_54 : decode cX2_doTurn 54 = .ok (.idiv, 1) := by decide +kernel
theorem dX2_doTurn_55 : decode cX2_doTurn 55 = .ok (.bipush 11, 2) := by decide +kernel
theorem dX2_doTurn_57 : decode cX2_doTurn 57 = .ok (.irem, 1) := by decide +kernel
theorem dX2_doTurn_58 : decode cX2_doTurn 58 = .ok (.iadd, 1) := by decide +kernel
theorem dX2_doTurn_59 : decode cX2_doTurn 59 = .ok (.iload_n 2, 1) := by decide +kernel
theorem dX2_doTurn_60 : decode cX2_doTurn 60 = .ok (.bipush 64, 2) := by decide +kernel
theorem dX2_doTurn_62 : decode cX2_doTurn 62 = .ok (.idiv, 1) := by decide +kernel
theorem dX2_doTurn_63 : decode cX2_doTurn 63 = .ok (.bipush 8, 2) := by decide +kernel
theorem dX2_doTurn_65 : decode cX2_doTurn 65 = .ok (.irem, 1) := by decide +kernel
theorem dX2_doTurn_66 : decode cX2_doTurn 66 = .ok (.ifCond .ne 7, 3) := by decide +kernel
theorem dX2_doTurn_69 : decode cX2_doTurn 69 = .ok (.iconst 1, 1) := by decide +kernel
theorem dX2_doTurn_70 : decode cX2_doTurn 70 = .ok (.goto 4, 3) := by decide +kernel
theorem dX2_doTurn_73 : decode cX2_doTurn 73 = .ok (.iconst 0, 1) := by decide +kernel
theorem dX2_doTurn_74 : decode cX2_doTurn 74 = .ok (.iload_n 2, 1) := by decide +kernel
theorem dX2_doTurn_75 : decode cX2_doTurn 75 = .ok (.sipush 512, 3) := by decide +kernel
theorem dX2_doTurn_78 : decode cX2_doTurn 78 = .ok (.idiv, 1) := by decide +kernel
theorem dX2_doTurn_79 : decode cX2_doTurn 79 = .ok (.iconst 4, 1) := by decide +kernel
theorem dX2_doTurn_80 : decode cX2_doTurn 80 = .ok (.irem, 1) := by decide +kernel
theorem dX2_doTurn_81 : decode cX2_doTurn 81 = .ok (.ifCond .ne 7, 3) := by decide +kernel
theorem dX2_doTurn_84 : decode cX2_doTurn 84 = .ok (.iconst 1, 1) := by decide +kernel
theorem dX2_doTurn_85 : decode cX2_doTurn 85 = .ok (.goto 4, 3) := by decide +kernel
theorem dX2_doTurn_88 : decode cX2_doTurn 88 = .ok (.iconst 0, 1) := by decide +kernel
theorem dX2_doTurn_89 : decode cX2_doTurn 89 = .ok (.invokevirtual 123, 3) := by decide +kernel
theorem dX2_doTurn_92 : decode cX2_doTurn 92 = .ok (.pop, 1) := by decide +kernel
theorem dX2_doTurn_93 : decode cX2_doTurn 93 = .ok (.goto 58, 3) := by decide +kernel
theorem dX2_doTurn_96 : decode cX2_doTurn 96 = .ok (.aload_n 0, 1) := by decide +kernel
theorem dX2_doTurn_97 : decode cX2_doTurn 97 = .ok (.getfield 24, 3) := by decide +kernel
theorem dX2_doTurn_100 : decode cX2_doTurn 100 = .ok (.iload_n 2, 1) := by decide +kernel
theorem dX2_doTurn_101 : decode cX2_doTurn 101 = .ok (.iconst 3, 1) := by decide +kernel
theorem dX2_doTurn_102 : decode cX2_doTurn 102 = .ok (.irem, 1) := by decide +kernel
theorem dX2_doTurn_103 : decode cX2_doTurn 103 = .ok (.iload_n 2, 1) := by decide +kernel
theorem dX2_doTurn_104 : decode cX2_doTurn 104 = .ok (.iconst 4, 1) := by decide +kernel
theorem dX2_doTurn_105 : decode cX2_doTurn 105 = .ok (.idiv, 1) := by decide +kernel
theorem dX2_doTurn_106 : decode cX2_doTurn 106 = .ok (.iconst 4, 1) := by decide +kernel
theorem dX2_doTurn_107 : decode cX2_doTurn 107 = .ok (.irem, 1) := by decide +kernel
theorem dX2_doTurn_108 : decode cX2_doTurn 108 = .ok (.ifCond .ne 7, 3) := by decide +kernel
theorem dX2_doTurn_111 : decode cX2_doTurn 111 = .ok (.iconst 1, 1) := by decide +kernel
theorem dX2_doTurn_112 : decode cX2_doTurn 112 = .ok (.goto 4, 3) := by decide +kernel
theorem dX2_doTurn_115 : decode cX2_doTurn 115 = .ok (.iconst 0, 1) := by decide +kernel
theorem dX2_doTurn_116 : decode cX2_doTurn 116 = .ok (.invokevirtual 110, 3) := by decide +kernel
theorem dX2_doTurn_119 : decode cX2_doTurn 119 = .ok (.pop, 1) := by decide +kernel
theorem dX2_doTurn_120 : decode cX2_doTurn 120 = .ok (.goto 31, 3) := by decide +kernel
theorem dX2_doTurn_123 : decode cX2_doTurn 123 = .ok (.aload_n 0, 1) := by decide +kernel
theorem dX2_doTurn_124 : decode cX2_doTurn 124 = .ok (.getfield 24, 3) := by decide +kernel
theorem dX2_doTurn_127 : decode cX2_doTurn 127 = .ok (.iload_n 2, 1) := by decide +kernel
theorem dX2_doTurn_128 : decode cX2_doTurn 128 = .ok (.iconst 3, 1) := by decide +kernel
theorem dX2_doTurn_129 : decode cX2_doTurn 129 = .ok (.irem, 1) := by decide +kernel
theorem dX2_doTurn_130 : decode cX2_doTurn 130 = .ok (.invokevirtual 114, 3) := by decide +kernel
theorem dX2_doTurn_133 : decode cX2_doTurn 133 = .ok (.pop, 1) := by decide +kernel
theorem dX2_doTurn_134 : decode cX2_doTurn 134 = .ok (.goto 17, 3) := by decide +kernel
theorem dX2_doTurn_137 : decode cX2_doTurn 137 = .ok (.aload_n 0, 1) := by decide +kernel
theorem dX2_doTurn_138 : decode cX2_doTurn 138 = .ok (.getfield 24, 3) := by decide +kernel
theorem dX2_doTurn_141 : decode cX2_doTurn 141 = .ok (.iconst 1, 1) := by decide +kernel
theorem dX2_doTurn_142 : decode cX2_doTurn 142 = .ok (.iload_n 2, 1) := by decide +kernel
theorem dX2_doTurn_143 : decode cX2_doTurn 143 = .ok (.bipush 20, 2) := by decide +kernel
theorem dX2_doTurn_145 : decode cX2_doTurn 145 = .ok (.irem, 1) := by decide +kernel
theorem dX2_doTurn_146 : decode cX2_doTurn 146 = .ok (.iadd, 1) := by decide +kernel
theorem dX2_doTurn_147 : decode cX2_doTurn 147 = .ok (.invokevirtual 120, 3) := by decide +kernel
theorem dX2_doTurn_150 : decode cX2_doTurn 150 = .ok (.pop, 1) := by decide +kernel
theorem dX2_doTurn_151 : decode cX2_doTurn 151 = .ok (.return_, 1) := by decide +kernel
theorem dX2_save_0 : decode cX2_save 0 = .ok (.iload_n 1, 1) := by decide +kernel
theorem dX2_save_1 : decode cX2_save 1 = .ok (.invokestatic 272, 3) := by decide +kernel
theorem dX2_save_4 : decode cX2_save 4 = .ok (.aload_n 0, 1) := by decide +kernel
theorem dX2_save_5 : decode cX2_save 5 = .ok (.getfield 37, 3) := by decide +kernel
theorem dX2_save_8 : decode cX2_save 8 = .ok (.iload_n 1, 1) := by decide +kernel
theorem dX2_save_9 : decode cX2_save 9 = .ok (.aaload, 1) := by decide +kernel
theorem dX2_save_10 : decode cX2_save 10 = .ok (.aload_n 0, 1) := by decide +kernel
theorem dX2_save_11 : decode cX2_save 11 = .ok (.getfield 20, 3) := by decide +kernel
theorem dX2_save_14 : decode cX2_save 14 = .ok (.invokevirtual 220, 3) := by decide +kernel
theorem dX2_save_17 : decode cX2_save 17 = .ok (.aload_n 0, 1) := by decide +kernel
theorem dX2_save_18 : decode cX2_save 18 = .ok (.getfield 40, 3) := by decide +kernel
theorem dX2_save_21 : decode cX2_save 21 = .ok (.iload_n 1, 1) := by decide +kernel
theorem dX2_save_22 : decode cX2_save 22 = .ok (.iconst 1, 1) := by decide +kernel
theorem dX2_save_23 : decode cX2_save 23 = .ok (.bastore, 1) := by decide +kernel
theorem dX2_save_24 : decode cX2_save 24 = .ok (.aload_n 0, 1) := by decide +kernel
theorem dX2_save_25 : decode cX2_save 25 = .ok (.getfield 20, 3) := by decide +kernel
theorem dX2_save_28 : decode cX2_save 28 = .ok (.getfield 132, 3) := by decide +kernel
theorem dX2_save_31 : decode cX2_save 31 = .ok (.ireturn, 1) := by decide +kernel
theorem dX2_restore_0 : decode cX2_restore 0 = .ok (.iload_n 1, 1) := by decide +kernel
theorem dX2_restore_1 : decode cX2_restore 1 = .ok (.invokestatic 272, 3) := by decide +kernel
theorem dX2_restore_4 : decode cX2_restore 4 = .ok (.aload_n 0, 1) := by decide +kernel
theorem dX2_restore_5 : decode cX2_restore 5 = .ok (.getfield 40, 3) := by decide +kernel
theorem dX2_restore_8 : decode cX2_restore 8 = .ok (.iload_n 1, 1) := by decide +kernel
theorem dX2_restore_9 : decode cX2_restore 9 = .ok (.baload, 1) := by decide +kernel
theorem dX2_restore_10 : decode cX2_restore 10 = .ok (.ifCond .ne 14, 3) := by decide +kernel
theorem dX2_restore_13 : decode cX2_restore 13 = .ok (.new 51, 3) := by decide +kernel
theorem dX2_restore_16 : decode cX2_restore 16 = .ok (.dup, 1) := by decide +kernel
theorem dX2_restore_17 : decode cX2_restore 17 = .ok (.ldc_w 275, 3) := by decide +kernel
theorem dX2_restore_20 : decode cX2_restore 20 = .ok (.invokespecial 55, 3) := by decide +kernel
theorem dX2_restore_23 : decode cX2_restore 23 = .ok (.athrow, 1) := by decide +kernel
theorem dX2_restore_24 : decode cX2_restore 24 = .ok (.aload_n 0, 1) := by decide +kernel
theorem dX2_restore_25 : decode cX2_restore 25 = .ok (.getfield 20, 3) := by decide +kernel
theorem dX2_restore_28 : decode cX2_restore 28 = .ok (.aload_n 0, 1) := by decide +kernel
theorem dX2_restore_29 : decode cX2_restore 29 = .ok (.getfield 37, 3) := by decide +kernel
theorem dX2_restore_32 : decode cX2_restore 32 = .ok (.iload_n 1, 1) := by decide +kernel
theorem dX2_restore_33 : decode cX2_restore 33 = .ok (.aaload, 1) := by decide +kernel
theorem dX2_restore_34 : decode cX2_restore 34 = .ok (.invokevirtual 220, 3) := by decide +kernel
theorem dX2_restore_37 : decode cX2_restore 37 = .ok (.aload_n 0, 1) := by decide +kernel
theorem dX2_restore_38 : decode cX2_restore 38 = .ok (.invokevirtual 75, 3) := by decide +kernel
theorem dX2_restore_41 : decode cX2_restore 41 = .ok (.aload_n 0, 1) := by decide +kernel
theorem dX2_restore_42 : decode cX2_restore 42 = .ok (.getfield 20, 3) := by decide +kernel
theorem dX2_restore_45 : decode cX2_restore 45 = .ok (.getfield 132, 3) := by decide +kernel
theorem dX2_restore_48 : decode cX2_restore 48 = .ok (.ireturn, 1) := by decide +kernel
theorem dX2_checkSlot_0 : decode cX2_checkSlot 0 = .ok (.iload_n 0, 1) := by decide +kernel
theorem dX2_checkSlot_1 : decode cX2_checkSlot 1 = .ok (.ifCond .lt 8, 3) := by decide +kernel
theorem dX2_checkSlot_4 : decode cX2_checkSlot 4 = .ok (.iload_n 0, 1) := by decide +kernel
theorem dX2_checkSlot_5 : decode cX2_checkSlot 5 = .ok (.iconst 2, 1) := by decide +kernel
theorem dX2_checkSlot_6 : decode cX2_checkSlot 6 = .ok (.if_icmp .lt 14, 3) := by decide +kernel
theorem dX2_checkSlot_9 : decode cX2_checkSlot 9 = .ok (.new 175, 3) := by decide +kernel
theorem dX2_checkSlot_12 : decode cX2_checkSlot 12 = .ok (.dup, 1) := by decide +kernel
theorem dX2_checkSlot_13 : decode cX2_checkSlot 13 = .ok (.ldc_w 277, 3) := by decide +kernel
theorem dX2_checkSlot_16 : decode cX2_checkSlot 16 = .ok (.invokespecial 179, 3) := by decide +kernel
theorem dX2_checkSlot_19 : decode cX2_checkSlot 19 = .ok (.athrow, 1) := by decide +kernel
theorem dX2_checkSlot_20 : decode cX2_checkSlot 20 = .ok (.return_, 1) := by decide +kernel
end
section
theorem dX3_init_0 : decode cX3_init 0 = .ok (.aload_n 0, 1) := by decide +kernel
theorem dX3_init_1 : decode cX3_init 1 = .ok (.invokespecial 1, 3) := by decide +kernel
theorem dX3_init_4 : decode cX3_init 4 = .ok (.aload_n 0, 1) := by decide +kernel
theorem dX3_init_5 : decode cX3_init 5 = .ok (.bipush 120, 2) := by decide +kernel
theorem dX3_init_7 : decode cX3_init 7 = .ok (.newarray .int, 2) := by decide +kernel
theorem dX3_init_9 : decode cX3_init 9 = .ok (.putfield 7, 3) := by decide +kernel
theorem dX3_init_12 : decode cX3_init 12 = .ok (.aload_n 0, 1) := by decide +kernel
theorem dX3_init_13 : decode cX3_init 13 = .ok (.bipush 121, 2) := by decide +kernel
theorem dX3_init_15 : decode cX3_init 15 = .ok (.newarray .int, 2) := by decide +kernel
theorem dX3_init_17 : decode cX3_init 17 = .ok (.putfield 13, 3) := by decide +kernel
theorem dX3_init_20 : decode cX3_init 20 = .ok (.aload_n 0, 1) := by decide +kernel
theorem dX3_init_21 : decode cX3_init 21 = .ok (.bipush 121, 2) := by decide +kernel
theorem dX3_init_23 : decode cX3_init 23 = .ok (.newarray .int, 2) := by decide +kernel
theorem dX3_init_25 : decode cX3_init 25 = .ok (.putfield 16, 3) := by decide +kernel
theorem dX3_init_28 : decode cX3_init 28 = .ok (.aload_n 0, 1) := by decide +kernel
theorem dX3_init_29 : decode cX3_init 29 = .ok (.sipush 1694, 3) := by decide +kernel
theorem dX3_init_32 : decode cX3_init 32 = .ok (.newarray .int, 2) := by decide +kernel
theorem dX3_init_34 : decode cX3_init 34 = .ok (.putfield 19, 3) := by decide +kernel
theorem dX3_init_37 : decode cX3_init 37 = .ok (.aload_n 0, 1) := by decide +kernel
theorem dX3_init_38 : decode cX3_init 38 = .ok (.sipush 242, 3) := by decide +kernel
theorem dX3_init_41 : decode cX3_init 41 = .ok (.newarray .int, 2) := by decide +kernel
theorem dX3_init_43 : decode cX3_init 43 = .ok (.putfield 22, 3) := by decide +kernel
theorem dX3_init_46 : decode cX3_init 46 = .ok (.aload_n 0, 1) := by decide +kernel
theorem dX3_init_47 : decode cX3_init 47 = .ok (.iconst 2, 1) := by decide +kernel
theorem dX3_init_48 : decode cX3_init 48 = .ok (.newarray .boolean, 2) := by decide +kernel
theorem dX3_init_50 : decode cX3_init 50 = .ok (.putfield 25, 3) := by decide +kernel
theorem dX3_init_53 : decode cX3_init 53 = .ok (.aload_n 0, 1) := by decide +kernel
theorem dX3_init_54 : decode cX3_init 54 = .ok (.bipush 6, 2) := by decide +kernel
theorem dX3_init_56 : decode cX3_init 56 = .ok (.newarray .boolean, 2) := by decide +kernel
theorem dX3_init_58 : decode cX3_init 58 = .ok (.putfield 29, 3) := by decide +kernel
theorem dX3_init_61 : decode cX3_init 61 = .ok (.aload_n 0, 1) := by decide +kernel
theorem dX3_init_62 : decode cX3_init 62 = .ok (.getfield 13, 3) := by decide +kernel
theorem dX3_init_65 : decode cX3_init 65 = .ok (.invokestatic 32, 3) := by decide +kernel
theorem dX3_init_68 : decode cX3_init 68 = .ok (.return_, 1) := by decide +kernel
theorem dX3_thrown_0 : decode cX3_thrown 0 = .ok (.aload_n 0, 1) := by decide +kernel
theorem dX3_thrown_1 : decode cX3_thrown 1 = .ok (.getfield 36, 3) := by decide +kernel
theorem dX3_thrown_4 : decode cX3_thrown 4 = .ok (.ireturn, 1) := by decide +kernel
theorem dX3_refused_0 : decode cX3_refused 0 = .ok (.aload_n 0, 1) := by decide +kernel
theorem dX3_refused_1 : decode cX3_refused 1 = .ok (.iload_n 1, 1) := by decide +kernel
theorem dX3_refused_2 : decode cX3_refused 2 = .ok (.putfield 36, 3) := by decide +kernel
theorem dX3_refused_5 : decode cX3_refused 5 = .ok (.iload_n 1, 1) := by decide +kernel
theorem dX3_refused_6 : decode cX3_refused 6 = .ok (.ifCond .le 7, 3) := by decide +kernel
theorem dX3_refused_9 : decode cX3_refused 9 = .ok (.iconst 1, 1) := by decide +kernel
theorem dX3_refused_10 : decode cX3_refused 10 = .ok (.goto 4, 3) := by decide +kernel
theorem dX3_refused_13 : decode cX3_refused 13 = .ok (.iconst 0, 1) := by decide +kernel
theorem dX3_refused_14 : decode cX3_refused 14 = .ok (.ireturn, 1) := by decide +kernel
theorem dX3_in_0 : decode cX3_in 0 = .ok (.lload_n 0, 1) := by decide +kernel
theorem dX3_in_1 : decode cX3_in 1 = .ok (.lload_n 2, 1) := by decide +kernel
theorem dX3_in_2 : decode cX3_in 2 = .ok (.lcmp, 1) := by decide +kernel
theorem dX3_in_3 : decode cX3_in 3 = .ok (.ifCond .lt 14, 3) := by decide +kernel
theorem dX3_in_6 : decode cX3_in 6 = .ok (.lload_n 0, 1) := by decide +kernel
theorem dX3_in_7 : decode cX3_in 7 = .ok (.lload 4, 2) := by decide +kernel
theorem dX3_in_9 : decode cX3_in 9 = .ok (.lcmp, 1) := by decide +kernel
theorem dX3_in_10 : decode cX3_in 10 = .ok (.ifCond .gt 7, 3) := by decide +kernel
theorem dX3_in_13 : decode cX3_in 13 = .ok (.iconst 1, 1) := by decide +kernel
theorem dX3_in_14 : decode cX3_in 14 = .ok (.goto 4, 3) := by decide +kernel
theorem dX3_in_17 : decode cX3_in 17 = .ok (.iconst 0, 1) := by decide +kernel
theorem dX3_in_18 : decode cX3_in 18 = .ok (.ireturn, 1) := by decide +kernel
theorem dX3_copyState_0 : decode cX3_copyState 0 = .ok (.iconst 0, 1) := by decide +kernel
theorem dX3_copyState_1 : decode cX3_copyState 1 = .ok (.istore 4, 2) := by decide +kernel
theorem dX3_copyState_3 : decode cX3_copyState 3 = .ok (.iload 4, 2) := by decide +kernel
theorem dX3_copyState_5 : decode cX3_copyState 5 = .ok (.bipush 121, 2) := by decide +kernel
theorem dX3_copyState_7 : decode cX3_copyState 7 = .ok (.if_icmp .ge 21, 3) := by decide +kernel
theorem dX3_copyState_10 : decode cX3_copyState 10 = .ok (.aload_n 2, 1) := by decide +kernel
theorem dX3_copyState_11 : decode cX3_copyState 11 = .ok (.iload_n 3, 1) := by decide +kernel
theorem dX3_copyState_12 : decode cX3_copyState 12 = .ok (.iload 4, 2) := by decide +kernel
theorem dX3_copyState_14 : decode cX3_copyState 14 = .ok (.iadd, 1) := by decide +kernel
theorem dX3_copyState_15 : decode cX3_copyState 15 = .ok (.aload_n 0, 1) := by decide +kernel
theorem dX3_copyState_16 : decode cX3_copyState 16 = .ok (.iload_n 1, 1) := by decide +kernel
theorem dX3_copyState_17 : decode cX3_copyState 17 = .ok (.iload 4, 2) := by decide +kernel
theorem dX3_copyState_19 : decode cX3_copyState 19 = .ok (.iadd, 1) := by decide +kernel
theorem dX3_copyState_20 : decode cX3_copyState 20 = .ok (.iaload, 1) := by decide +kernel
theorem dX3_copyState_21 : decode cX3_copyState 21 = .ok (.iastore, 1) := by decide +kernel
theorem dX3_copyState_22 : decode cX3_copyState 22 = .ok (.iinc 4 1, 3) := by decide +kernel
theorem dX3_copyState_25 : decode cX3_copyState 25 = .ok (.goto (-22), 3) := by decide +kernel
theorem dX3_copyState_28 : decode cX3_copyState 28 = .ok (.return_, 1) := by decide +kernel
theorem dX3_clear_0 : decode cX3_clear 0 = .ok (.iconst 0, 1) := by decide +kernel
theorem dX3_clear_1 : decode cX3_clear 1 = .ok (.istore_n 1, 1) := by decide +kernel
theorem dX3_clear_2 : decode cX3_clear 2 = .ok (.iload_n 1, 1) := by decide +kernel
theorem dX3_clear_3 : decode cX3_clear 3 = .ok (.bipush 121, 2) := by decide +kernel
theorem dX3_clear_5 : decode cX3_clear 5 = .ok (.if_icmp .ge 13, 3) := by decide +kernel
theorem dX3_clear_8 : decode cX3_clear 8 = .ok (.aload_n 0, 1) := by decide +kernel
theorem dX3_clear_9 : decode cX3_clear 9 = .ok (.iload_n 1, 1) := by decide +kernel
theorem dX3_clear_10 : decode cX3_clear 10 = .ok (.iconst 0, 1) := by decide +kernel
theorem dX3_clear_11 : decode cX3_clear 11 = .ok (.iastore, 1) := by decide +kernel
theorem dX3_clear_12 : decode cX3_clear 12 = .ok (.iinc 1 1, 3) := by decide +kernel
theorem dX3_clear_15 : decode cX3_clear 15 = .ok (.goto (-13), 3) := by decide +kernel
theorem dX3_clear_18 : decode cX3_clear 18 = .ok (.aload_n 0, 1) := by decide +kernel
theorem dX3_clear_19 : decode cX3_clear 19 = .ok (.bipush 7, 2) := by decide +kernel
theorem dX3_clear_21 : decode cX3_clear 21 = .ok (.iconst 3, 1) := by decide +kernel
theorem dX3_clear_22 : decode cX3_clear 22 = .ok (.iastore, 1) := by decide +kernel
theorem dX3_clear_23 : decode cX3_clear 23 = .ok (.aload_n 0, 1) := by decide +kernel
theorem dX3_clear_24 : decode cX3_clear 24 = .ok (.bipush 8, 2) := by decide +kernel
theorem dX3_clear_26 : decode cX3_clear 26 = .ok (.bipush 12, 2) := by decide +kernel
theorem dX3_clear_28 : decode cX3_clear 28 = .ok (.iastore, 1) := by decide +kernel
theorem dX3_clear_29 : decode cX3_clear 29 = .ok (.aload_n 0, 1) := by decide +kernel
theorem dX3_clear_30 : decode cX3_clear 30 = .ok (.bipush 9, 2) := by decide +kernel
theorem dX3_clear_32 : decode cX3_clear 32 = .ok (.iconst 2, 1) := by decide +kernel
theorem dX3_clear_33 : decode cX3_clear 33 = .ok (.iastore, 1) := by decide +kernel
theorem dX3_clear_34 : decode cX3_clear 34 = .ok (.return_, 1) := by decide +kernel
theorem dX3_isLane_0 : decode cX3_isLane 0 = .ok (.iload_n 1, 1) := by decide +kernel
theorem dX3_isLane_1 : decode cX3_isLane 1 = .ok (.i2l, 1) := by decide +kernel
theorem dX3_isLane_2 : decode cX3_isLane 2 = .ok (.lconst 0, 1) := by decide +kernel
theorem dX3_isLane_3 : decode cX3_isLane 3 = .ok (.aload_n 0, 1) := by decide +kernel
theorem dX3_isLane_4 : decode cX3_isLane 4 = .ok (.iconst 0, 1) := by decide +kernel
theorem dX3_isLane_5 : decode cX3_isLane 5 = .ok (.iaload, 1) := by decide +kernel
theorem dX3_isLane_6 : decode cX3_isLane 6 = .ok (.iconst 1, 1) := by decide +kernel
theorem dX3_isLane_7 : decode cX3_isLane 7 = .ok (.isub, 1) := by decide +kernel
theorem dX3_isLane_8 : decode cX3_isLane 8 = .ok (.i2l, 1) := by decide +kernel
theorem dX3_isLane_9 : decode cX3_isLane 9 = .ok (.invokestatic 40, 3) := by decide +kernel
theorem dX3_isLane_12 : decode cX3_isLane 12 = .ok (.ireturn, 1) := by decide +kernel
theorem dX3_isVehicle_0 : decode cX3_isVehicle 0 = .ok (.aload_n 0, 1) := by decide +kernel
theorem dX3_isVehicle_1 : decode cX3_isVehicle 1 = .ok (.iload_n 1, 1) := by decide +kernel
theorem dX3_isVehicle_2 : decode cX3_isVehicle 2 = .ok (.invokestatic 44, 3) := by decide +kernel
theorem dX3_isVehicle_5 : decode cX3_isVehicle 5 = .ok (.ifCond .eq 25, 3) := by decide +kernel
theorem dX3_isVehicle_8 : decode cX3_isVehicle 8 = .ok (.iload_n 2, 1) := by decide +kernel
theorem dX3_isVehicle_9 : decode cX3_isVehicle 9 = .ok (.i2l, 1) := by decide +kernel
theorem dX3_isVehicle_10 : decode cX3_isVehicle 10 = .ok (.lconst 0, 1) := by decide +kernel
theorem dX3_isVehicle_11 : decode cX3_isVehicle 11 = .ok (.aload_n 0, 1) := by decide +kernel
theorem dX3_isVehicle_12 : decode cX3_isVehicle 12 = .ok (.iload_n 1, 1) := by decide +kernel
theorem dX3_isVehicle_13 : decode cX3_isVehicle 13 = .ok (.iconst 0, 1) := by decide +kernel
theorem dX3_isVehicle_14 : decode cX3_isVehicle 14 = .ok (.invokestatic 48, 3) := by decide +kernel
theorem dX3_isVehicle_17 : decode cX3_isVehicle 17 = .ok (.iconst 1, 1) := by decide +kernel
theorem dX3_isVehicle_18 : decode cX3_isVehicle 18 = .ok (.isub, 1) := by decide +kernel
theorem dX3_isVehicle_19 : decode cX3_isVehicle 19 = .ok (.i2l, 1) := by decide +kernel
theorem dX3_isVehicle_20 : decode cX3_isVehicle 20 = .ok (.invokestatic 40, 3) := by decide +kernel
theorem dX3_isVehicle_23 : decode cX3_isVehicle 23 = .ok (.ifCond .eq 7, 3) := by decide +kernel
theorem dX3_isVehicle_26 : decode cX3_isVehicle 26 = .ok (.iconst 1, 1) := by decide +kernel
theorem dX3_isVehicle_27 : decode cX3_isVehicle 27 = .ok (.goto 4, 3) := by decide +kernel
theorem dX3_isVehicle_30 : decode cX3_isVehicle 30 = .ok (.iconst 0, 1) := by decide +kernel
theorem dX3_isVehicle_31 : decode cX3_isVehicle 31 = .ok (.ireturn, 1) := by decide +kernel
theorem dX3_of_0 : decode cX3_of 0 = .ok (.aload_n 0, 1) := by decide +kernel
theorem dX3_of_1 : decode cX3_of 1 = .ok (.bipush 10, 2) := by decide +kernel
theorem dX3_of_3 : decode cX3_of 3 = .ok (.bipush 37, 2) := by decide +kernel
theorem dX3_of_5 : decode cX3_of 5 = .ok (.iload_n 1, 1) := by decide +kernel
theorem dX3_of_6 : decode cX3_of 6 = .ok (.imul, 1) := by decide +kernel
theorem dX3_of_7 : decode cX3_of 7 = .ok (.iadd, 1) := by decide +kernel
theorem dX3_of_8 : decode cX3_of 8 = .ok (.iload_n 2, 1) := by decide +kernel
theorem dX3_of_9 : decode cX3_of 9 = .ok (.iadd, 1) := by decide +kernel
theorem dX3_of_10 : decode cX3_of 10 = .ok (.iaload, 1) := by decide +kernel
theorem dX3_of_11 : decode cX3_of 11 = .ok (.ireturn, 1) := by decide +kernel
theorem dX3_lay_0 : decode cX3_lay 0 = .ok (.aload_n 0, 1) := by decide +kernel
theorem dX3_lay_1 : decode cX3_lay 1 = .ok (.bipush 10, 2) := by decide +kernel
theorem dX3_lay_3 : decode cX3_lay 3 = .ok (.bipush 37, 2) := by decide +kernel
theorem dX3_lay_5 : decode cX3_lay 5 = .ok (.iload_n 1, 1) := by decide +kernel
theorem dX3_lay_6 : decode cX3_lay 6 = .ok (.imul, 1) := by decide +kernel
theorem dX3_lay_7 : decode cX3_lay 7 = .ok (.iadd, 1) := by decide +kernel
theorem dX3_lay_8 : decode cX3_lay 8 = .ok (.iload_n 2, 1) := by decide +kernel
theorem dX3_lay_9 : decode cX3_lay 9 = .ok (.iadd, 1) := by decide +kernel
theorem dX3_lay_10 : decode cX3_lay 10 = .ok (.iload_n 3, 1) := by decide +kernel
theorem dX3_lay_11 : decode cX3_lay 11 = .ok (.iastore, 1) := by decide +kernel
theorem dX3_lay_12 : decode cX3_lay 12 = .ok (.return_, 1) := by decide +kernel
theorem dX3_place_0 : decode cX3_place 0 = .ok (.bipush 7, 2) := by decide +kernel
theorem dX3_place_2 : decode cX3_place 2 = .ok (.iconst 5, 1) := by decide +kernel
theorem dX3_place_3 : decode cX3_place 3 = .ok (.iload_n 0, 1) := by decide +kernel
theorem dX3_place_4 : decode cX3_place 4 = .ok (.imul, 1) := by decide +kernel
theorem dX3_place_5 : decode cX3_place 5 = .ok (.iadd, 1) := by decide +kernel
theorem dX3_place_6 : decode cX3_place 6 = .ok (.iload_n 1, 1) := by decide +kernel
theorem dX3_place_7 : decode cX3_place 7 = .ok (.iadd, 1) := by decide +kernel
theorem dX3_place_8 : decode cX3_place 8 = .ok (.ireturn, 1) := by decide +kernel
theorem dX3_told_0 : decode cX3_told 0 = .ok (.aload_n 0, 1) := by decide +kernel
theorem dX3_told_1 : decode cX3_told 1 = .ok (.iload_n 1, 1) := by decide +kernel
theorem dX3_told_2 : decode cX3_told 2 = .ok (.iload_n 2, 1) := by decide +kernel
theorem dX3_told_3 : decode cX3_told 3 = .ok (.iload_n 3, 1) := by decide +kernel
theorem dX3_told_4 : decode cX3_told 4 = .ok (.invokestatic 52, 3) := by decide +kernel
theorem dX3_told_7 : decode cX3_told 7 = .ok (.invokestatic 48, 3) := by decide +kernel
theorem dX3_told_10 : decode cX3_told 10 = .ok (.ireturn, 1) := by decide +kernel
theorem dX3_last_0 : decode cX3_last 0 = .ok (.aload_n 0, 1) := by decide +kernel
theorem dX3_last_1 : decode cX3_last 1 = .ok (.iload_n 1, 1) := by decide +kernel
theorem dX3_last_2 : decode cX3_last 2 = .ok (.iload_n 2, 1) := by decide +kernel
theorem dX3_last_3 : decode cX3_last 3 = .ok (.iconst 1, 1) := by decide +kernel
theorem dX3_last_4 : decode cX3_last 4 = .ok (.invokestatic 56, 3) := by decide +kernel
theorem dX3_last_7 : decode cX3_last 7 = .ok (.aload_n 0, 1) := by decide +kernel
theorem dX3_last_8 : decode cX3_last 8 = .ok (.iload_n 1, 1) := by decide +kernel
theorem dX3_last_9 : decode cX3_last 9 = .ok (.iload_n 2, 1) := by decide +kernel
theorem dX3_last_10 : decode cX3_last 10 = .ok (.iconst 0, 1) := by decide +kernel
theorem dX3_last_11 : decode cX3_last 11 = .ok (.invokestatic 56, 3) := by decide +kernel
theorem dX3_last_14 : decode cX3_last 14 = .ok (.isub, 1) := by decide +kernel
theorem dX3_last_15 : decode cX3_last 15 = .ok (.iconst 1, 1) := by decide +kernel
theorem dX3_last_16 : decode cX3_last 16 = .ok (.iadd, 1) := by decide +kernel
theorem dX3_last_17 : decode cX3_last 17 = .ok (.ireturn, 1) := by decide +kernel
theorem dX3_covers_0 : decode cX3_covers 0 = .ok (.iload_n 3, 1) := by decide +kernel
theorem dX3_covers_1 : decode cX3_covers 1 = .ok (.aload_n 0, 1) := by decide +kernel
theorem dX3_covers_2 : decode cX3_covers 2 = .ok (.iload_n 1, 1) := by decide +kernel
theorem dX3_covers_3 : decode cX3_covers 3 = .ok (.iload_n 2, 1) := by decide +kernel
theorem dX3_covers_4 : decode cX3_covers 4 = .ok (.iconst 1, 1) := by decide +kernel
theorem dX3_covers_5 : decode cX3_covers 5 = .ok (.invokestatic 56, 3) := by decide +kernel
theorem dX3_covers_8 : decode cX3_covers 8 = .ok (.if_icmp .gt 17, 3) := by decide +kernel
theorem dX3_covers_11 : decode cX3_covers 11 = .ok (.iload_n 3, 1) := by decide +kernel
theorem dX3_covers_12 : decode cX3_covers 12 = .ok (.aload_n 0, 1) := by decide +kernel
theorem dX3_covers_13 : decode cX3_covers 13 = .ok (.iload_n 1, 1) := by decide +kernel
theorem dX3_covers_14 : decode cX3_covers 14 = .ok (.iload_n 2, 1) := by decide +kernel
theorem dX3_covers_15 : decode cX3_covers 15 = .ok (.invokestatic 60, 3) := by decide +kernel
theorem dX3_covers_18 : decode cX3_covers 18 = .ok (.if_icmp .lt 7, 3) := by decide +kernel
theorem dX3_covers_21 : decode cX3_covers 21 = .ok (.iconst 1, 1) := by decide +kernel
theorem dX3_covers_22 : decode cX3_covers 22 = .ok (.goto 4, 3) := by decide +kernel
theorem dX3_covers_25 : decode cX3_covers 25 = .ok (.iconst 0, 1) := by decide +kernel
theorem dX3_covers_26 : decode cX3_covers 26 = .ok (.ireturn, 1) := by decide +kernel
theorem dX3_isCovered_0 : decode cX3_isCovered 0 = .ok (.iconst 0, 1) := by decide +kernel
theorem dX3_isCovered_1 : decode cX3_isCovered 1 = .ok (.istore_n 2, 1) := by decide +kernel
theorem dX3_isCovered_2 : decode cX3_isCovered 2 = .ok (.iload_n 2, 1) := by decide +kernel
theorem dX3_isCovered_3 : decode cX3_isCovered 3 = .ok (.aload_n 0, 1) := by decide +kernel
theorem dX3_isCovered_4 : decode cX3_isCovered 4 = .ok (.iload_n 1, 1) := by decide +kernel
theorem dX3_isCovered_5 : decode cX3_isCovered 5 = .ok (.iconst 0, 1) := by decide +kernel
theorem dX3_isCovered_6 : decode cX3_isCovered 6 = .ok (.invokestatic 48, 3) := by decide +kernel
theorem dX3_isCovered_9 : decode cX3_isCovered 9 = .ok (.if_icmp .ge 22, 3) := by decide +kernel
theorem dX3_isCovered_12 : decode cX3_isCovered 12 = .ok (.aload_n 0, 1) := by decide +kernel
theorem dX3_isCovered_13 : decode cX3_isCovered 13 = .ok (.iload_n 1, 1) := by decide +kernel
theorem dX3_isCovered_14 : decode cX3_isCovered 14 = .ok (.iload_n 2, 1) := by decide +kernel
theorem dX3_isCovered_15 : decode cX3_isCovered 15 = .ok (.bipush 20, 2) := by decide +kernel
theorem dX3_isCovered_17 : decode cX3_isCovered 17 = .ok (.invokestatic 63, 3) := by decide +kernel
theorem dX3_isCovered_20 : decode cX3_isCovered 20 = .ok (.ifCond .eq 5, 3) := by decide +kernel
theorem dX3_isCovered_23 : decode cX3_isCovered 23 = .ok (.iconst 1, 1) := by decide +kernel
theorem dX3_isCovered_24 : decode cX3_isCovered 24 = .ok (.ireturn, 1) := by decide +kernel
theorem dX3_isCovered_25 : decode cX3_isCovered 25 = .ok (.iinc 2 1, 3) := by decide +kernel
theorem dX3_isCovered_28 : decode cX3_isCovered 28 = .ok (.goto (-26), 3) := by decide +kernel
theorem dX3_isCovered_31 : decode cX3_isCovered 31 = .ok (.iconst 0, 1) := by decide +kernel
theorem dX3_isCovered_32 : decode cX3_isCovered 32 = .ok (.ireturn, 1) := by decide +kernel
theorem dX3_canMove_0 : decode cX3_canMove 0 = .ok (.aload_n 0, 1) := by decide +kernel
theorem dX3_canMove_1 : decode cX3_canMove 1 = .ok (.iload_n 1, 1) := by decide +kernel
theorem dX3_canMove_2 : decode cX3_canMove 2 = .ok (.iload_n 2, 1) := by decide +kernel
theorem dX3_canMove_3 : decode cX3_canMove 3 = .ok (.iconst 1, 1) := by decide +kernel
theorem dX3_canMove_4 : decode cX3_canMove 4 = .ok (.invokestatic 56, 3) := by decide +kernel
theorem dX3_canMove_7 : decode cX3_canMove 7 = .ok (.istore_n 3, 1) := by decide +kernel
theorem dX3_canMove_8 : decode cX3_canMove 8 = .ok (.iload_n 2, 1) := by decide +kernel
theorem dX3_canMove_9 : decode cX3_canMove 9 = .ok (.ifCond .le 19, 3) := by decide +kernel
theorem dX3_canMove_12 : decode cX3_canMove 12 = .ok (.aload_n 0, 1) := by decide +kernel
theorem dX3_canMove_13 : decode cX3_canMove 13 = .ok (.iload_n 1, 1) := by decide +kernel
theorem dX3_canMove_14 : decode cX3_canMove 14 = .ok (.iload_n 2, 1) := by decide +kernel
theorem dX3_canMove_15 : decode cX3_canMove 15 = .ok (.iconst 1, 1) := by decide +kernel
theorem dX3_canMove_16 : decode cX3_canMove 16 = .ok (.isub, 1) := by decide +kernel
theorem dX3_canMove_17 : decode cX3_canMove 17 = .ok (.invokestatic 60, 3) := by decide +kernel
theorem dX3_canMove_20 : decode cX3_canMove 20 = .ok (.iload_n 3, 1) := by decide +kernel
theorem dX3_canMove_21 : decode cX3_canMove 21 = .ok (.iconst 2, 1) := by decide +kernel
theorem dX3_canMove_22 : decode cX3_canMove 22 = .ok (.iadd, 1) := by decide +kernel
theorem dX3_canMove_23 : decode cX3_canMove 23 = .ok (.if_icmp .ge 5, 3) := by decide +kernel
theorem dX3_canMove_26 : decode cX3_canMove 26 = .ok (.iconst 0, 1) := by decide +kernel
theorem dX3_canMove_27 : decode cX3_canMove 27 = .ok (.ireturn, 1) := by decide +kernel
theorem dX3_canMove_28 : decode cX3_canMove 28 = .ok (.iload_n 3, 1) := by decide +kernel
theorem dX3_canMove_29 : decode cX3_canMove 29 = .ok (.bipush 19, 2) := by decide +kernel
theorem dX3_canMove_31 : decode cX3_canMove 31 = .ok (.if_icmp .ne 35, 3) := by decide +kernel
theorem dX3_canMove_34 : decode cX3_canMove 34 = .ok (.aload_n 0, 1) := by decide +kernel
theorem dX3_canMove_35 : decode cX3_canMove 35 = .ok (.iload_n 1, 1) := by decide +kernel
theorem dX3_canMove_36 : decode cX3_canMove 36 = .ok (.iconst 1, 1) := by decide +kernel
theorem dX3_canMove_37 : decode cX3_canMove 37 = .ok (.invokestatic 48, 3) := by decide +kernel
theorem dX3_canMove_40 : decode cX3_canMove 40 = .ok (.iconst 4, 1) := by decide +kernel
theorem dX3_canMove_41 : decode cX3_canMove 41 = .ok (.if_icmp .ne 29, 3) := by decide +kernel
theorem dX3_canMove_44 : decode cX3_canMove 44 = .ok (.aload_n 0, 1) := by decide +kernel
theorem dX3_canMove_45 : decode cX3_canMove 45 = .ok (.iload_n 1, 1) := by decide +kernel
theorem dX3_canMove_46 : decode cX3_canMove 46 = .ok (.iload_n 2, 1) := by decide +kernel
theorem dX3_canMove_47 : decode cX3_canMove 47 = .ok (.iconst 4, 1) := by decide +kernel
theorem dX3_canMove_48 : decode cX3_canMove 48 = .ok (.invokestatic 56, 3) := by decide +kernel
theorem dX3_canMove_51 : decode cX3_canMove 51 = .ok (.iconst 1, 1) := by decide +kernel
theorem dX3_canMove_52 : decode cX3_canMove 52 = .ok (.if_icmp .eq 14, 3) := by decide +kernel
theorem dX3_canMove_55 : decode cX3_canMove 55 = .ok (.aload_n 0, 1) := by decide +kernel
theorem dX3_canMove_56 : decode cX3_canMove 56 = .ok (.iload_n 1, 1) := by decide +kernel
theorem dX3_canMove_57 : decode cX3_canMove 57 = .ok (.iload_n 2, 1) := by decide +kernel
theorem dX3_canMove_58 : decode cX3_canMove 58 = .ok (.iconst 3, 1) := by decide +kernel
theorem dX3_canMove_59 : decode cX3_canMove 59 = .ok (.invokestatic 56, 3) := by decide +kernel
theorem dX3_canMove_62 : decode cX3_canMove 62 = .ok (.iconst 1, 1) := by decide +kernel
theorem dX3_canMove_63 : decode cX3_canMove 63 = .ok (.if_icmp .ne 7, 3) := by decide +kernel
theorem dX3_canMove_66 : decode cX3_canMove 66 = .ok (.iconst 1, 1) := by decide +kernel
theorem dX3_canMove_67 : decode cX3_canMove 67 = .ok (.goto 4, 3) := by decide +kernel
theorem dX3_canMove_70 : decode cX3_canMove 70 = .ok (.iconst 0, 1) := by decide +kernel
theorem dX3_canMove_71 : decode cX3_canMove 71 = .ok (.ireturn, 1) := by decide +kernel
theorem dX3_dropFirst_0 : decode cX3_dropFirst 0 = .ok (.aload_n 0, 1) := by decide +kernel
theorem dX3_dropFirst_1 : decode cX3_dropFirst 1 = .ok (.iload_n 1, 1) := by decide +kernel
theorem dX3_dropFirst_2 : decode cX3_dropFirst 2 = .ok (.iconst 0, 1) := by decide +kernel
theorem dX3_dropFirst_3 : decode cX3_dropFirst 3 = .ok (.aload_n 0, 1) := by decide +kernel
theorem dX3_dropFirst_4 : decode cX3_dropFirst 4 = .ok (.iload_n 1, 1) := by decide +kernel
theorem dX3_dropFirst_5 : decode cX3_dropFirst 5 = .ok (.iconst 0, 1) := by decide +kernel
theorem dX3_dropFirst_6 : decode cX3_dropFirst 6 = .ok (.invokestatic 48, 3) := by decide +kernel
theorem dX3_dropFirst_9 : decode cX3_dropFirst 9 = .ok (.iconst 1, 1) := by decide +kernel
theorem dX3_dropFirst_10 : decode cX3_dropFirst 10 = .ok (.isub, 1) := by decide +kernel
theorem dX3_dropFirst_11 : decode cX3_dropFirst 11 = .ok (.invokestatic 67, 3) := by decide +kernel
theorem dX3_dropFirst_14 : decode cX3_dropFirst 14 = .ok (.bipush 7, 2) := by decide +kernel
theorem dX3_dropFirst_16 : decode cX3_dropFirst 16 = .ok (.istore_n 2, 1) := by decide +kernel
theorem dX3_dropFirst_17 : decode cX3_dropFirst 17 = .ok (.iload_n 2, 1) := by decide +kernel
theorem dX3_dropFirst_18 : decode cX3_dropFirst 18 = .ok (.bipush 7, 2) := by decide +kernel
theorem dX3_dropFirst_20 : decode cX3_dropFirst 20 = .ok (.iconst 5, 1) := by decide +kernel
theorem dX3_dropFirst_21 : decode cX3_dropFirst 21 = .ok (.aload_n 0, 1) := by decide +kernel
theorem dX3_dropFirst_22 : decode cX3_dropFirst 22 = .ok (.iload_n 1, 1) := by decide +kernel
theorem dX3_dropFirst_23 : decode cX3_dropFirst 23 = .ok (.iconst 0, 1) := by decide +kernel
theorem dX3_dropFirst_24 : decode cX3_dropFirst 24 = .ok (.invokestatic 48, 3) := by decide +kernel
theorem dX3_dropFirst_27 : decode cX3_dropFirst 27 = .ok (.imul, 1) := by decide +kernel
theorem dX3_dropFirst_28 : decode cX3_dropFirst 28 = .ok (.iadd, 1) := by decide +kernel
theorem dX3_dropFirst_29 : decode cX3_dropFirst 29 = .ok (.if_icmp .ge 23, 3) := by decide +kernel
theorem dX3_dropFirst_32 : decode cX3_dropFirst 32 = .ok (.aload_n 0, 1) := by decide +kernel
theorem dX3_dropFirst_33 : decode cX3_dropFirst 33 = .ok (.iload_n 1, 1) := by decide +kernel
theorem dX3_dropFirst_34 : decode cX3_dropFirst 34 = .ok (.iload_n 2, 1) := by decide +kernel
theorem dX3_dropFirst_35 : decode cX3_dropFirst 35 = .ok (.aload_n 0, 1) := by decide +kernel
theorem dX3_dropFirst_36 : decode cX3_dropFirst 36 = .ok (.iload_n 1, 1) := by decide +kernel
theorem dX3_dropFirst_37 : decode cX3_dropFirst 37 = .ok (.iload_n 2, 1) := by decide +kernel
theorem dX3_dropFirst_38 : decode cX3_dropFirst 38 = .ok (.iconst 5, 1) := by decide +kernel
theorem dX3_dropFirst_39 : decode cX3_dropFirst 39 = .ok (.iadd, 1) := by decide +kernel
theorem dX3_dropFirst_40 : decode cX3_dropFirst 40 = .ok (.invokestatic 48, 3) := by decide +kernel
theorem dX3_dropFirst_43 : decode cX3_dropFirst 43 = .ok (.invokestatic 67, 3) := by decide +kernel
theorem dX3_dropFirst_46 : decode cX3_dropFirst 46 = .ok (.iinc 2 1, 3) := by decide +kernel
theorem dX3_dropFirst_49 : decode cX3_dropFirst 49 = .ok (.goto (-32), 3) := by decide +kernel
theorem dX3_dropFirst_52 : decode cX3_dropFirst 52 = .ok (.return_, 1) := by decide +kernel
theorem dX3_moveAll_0 : decode cX3_moveAll 0 = .ok (.iconst 0, 1) := by decide +kernel
theorem dX3_moveAll_1 : decode cX3_moveAll 1 = .ok (.istore_n 3, 1) := by decide +kernel
theorem dX3_moveAll_2 : decode cX3_moveAll 2 = .ok (.iload_n 3, 1) := by decide +kernel
theorem dX3_moveAll_3 : decode cX3_moveAll 3 = .ok (.aload_n 1, 1) := by decide +kernel
theorem dX3_moveAll_4 : decode cX3_moveAll 4 = .ok (.iload_n 2, 1) := by decide +kernel
theorem dX3_moveAll_5 : decode cX3_moveAll 5 = .ok (.iconst 0, 1) := by decide +kernel
theorem dX3_moveAll_6 : decode cX3_moveAll 6 = .ok (.invokestatic 48, 3) := by decide +kernel
theorem dX3_moveAll_9 : decode cX3_moveAll 9 = .ok (.if_icmp .ge 53, 3) := by decide +kernel
theorem dX3_moveAll_12 : decode cX3_moveAll 12 = .ok (.aload_n 0, 1) := by decide +kernel
theorem dX3_moveAll_13 : decode cX3_moveAll 13 = .ok (.getfield 29, 3) := by decide +kernel
theorem dX3_moveAll_16 : decode cX3_moveAll 16 = .ok (.iload_n 3, 1) := by decide +kernel
theorem dX3_moveAll_17 : decode cX3_moveAll 17 = .ok (.aload_n 1, 1) := by decide +kernel
theorem dX3_moveAll_18 : decode cX3_moveAll 18 = .ok (.iload_n 2, 1) := by decide +kernel
theorem dX3_moveAll_19 : decode cX3_moveAll 19 = .ok (.iload_n 3, 1) := by decide +kernel
theorem dX3_moveAll_20 : decode cX3_moveAll 20 = .ok (.invokestatic 71, 3) := by decide +kernel
theorem dX3_moveAll_23 : decode cX3_moveAll 23 = .ok (.bastore, 1) := by decide +kernel
theorem dX3_moveAll_24 : decode cX3_moveAll 24 = .ok (.aload_n 1, 1) := by decide +kernel
theorem dX3_moveAll_25 : decode cX3_moveAll 25 = .ok (.iload_n 2, 1) := by decide +kernel
theorem dX3_moveAll_26 : decode cX3_moveAll 26 = .ok (.iload_n 3, 1) := by decide +kernel
theorem dX3_moveAll_27 : decode cX3_moveAll 27 = .ok (.iconst 1, 1) := by decide +kernel
theorem dX3_moveAll_28 : decode cX3_moveAll 28 = .ok (.invokestatic 52, 3) := by decide +kernel
theorem dX3_moveAll_31 : decode cX3_moveAll 31 = .ok (.aload_n 1, 1) := by decide +kernel
theorem dX3_moveAll_32 : decode cX3_moveAll 32 = .ok (.iload_n 2, 1) := by decide +kernel
theorem dX3_moveAll_33 : decode cX3_moveAll 33 = .ok (.iload_n 3, 1) := by decide +kernel
theorem dX3_moveAll_34 : decode cX3_moveAll 34 = .ok (.iconst 1, 1) := by decide +kernel
theorem dX3_moveAll_35 : decode cX3_moveAll 35 = .ok (.invokestatic 56, 3) := by decide +kernel
theorem dX3_moveAll_38 : decode cX3_moveAll 38 = .ok (.aload_n 0, 1) := by decide +kernel
theorem dX3_moveAll_39 : decode cX3_moveAll 39 = .ok (.getfield 29, 3) := by decide +kernel
theorem dX3_moveAll_42 : decode cX3_moveAll 42 = .ok (.iload_n 3, 1) := by decide +kernel
theorem dX3_moveAll_43 : decode cX3_moveAll 43 = .ok (.baload, 1) := by decide +kernel
theorem dX3_moveAll_44 : decode cX3_moveAll 44 = .ok (.ifCond .eq 7, 3) := by decide +kernel
theorem dX3_moveAll_47 : decode cX3_moveAll 47 = .ok (.iconst 1, 1) := by decide +kernel
theorem dX3_moveAll_48 : decode cX3_moveAll 48 = .ok (.goto 4, 3) := by decide +kernel
theorem dX3_moveAll_51 : decode cX3_moveAll 51 = .ok (.iconst 0, 1) := by decide +kernel
theorem dX3_moveAll_52 : decode cX3_moveAll 52 = .ok (.iadd, 1) := by decide +kernel
theorem dX3_moveAll_53 : decode cX3_moveAll 53 = .ok (.invokestatic 67, 3) := by decide +kernel
theorem dX3_moveAll_56 : decode cX3_moveAll 56 = .ok (.iinc 3 1, 3) := by decide +kernel
theorem dX3_moveAll_59 : decode cX3_moveAll 59 = .ok (.goto (-57), 3) := by decide +kernel
theorem dX3_moveAll_62 : decode cX3_moveAll 62 = .ok (.aload_n 1, 1) := by decide +kernel
theorem dX3_moveAll_63 : decode cX3_moveAll 63 = .ok (.iload_n 2, 1) := by decide +kernel
theorem dX3_moveAll_64 : decode cX3_moveAll 64 = .ok (.iconst 0, 1) := by decide +kernel
theorem dX3_moveAll_65 : decode cX3_moveAll 65 = .ok (.invokestatic 48, 3) := by decide +kernel
theorem dX3_moveAll_68 : decode cX3_moveAll 68 = .ok (.ifCond .le 58, 3) := by decide +kernel
theorem dX3_moveAll_71 : decode cX3_moveAll 71 = .ok (.aload_n 1, 1) := by decide +kernel
theorem dX3_moveAll_72 : decode cX3_moveAll 72 = .ok (.iload_n 2, 1) := by decide +kernel
theorem dX3_moveAll_73 : decode cX3_moveAll 73 = .ok (.iconst 0, 1) := by decide +kernel
theorem dX3_moveAll_74 : decode cX3_moveAll 74 = .ok (.invokestatic 60, 3) := by decide +kernel
theorem dX3_moveAll_77 : decode cX3_moveAll 77 = .ok (.bipush 39, 2) := by decide +kernel
theorem dX3_moveAll_79 : decode cX3_moveAll 79 = .ok (.if_icmp .le 47, 3) := by decide +kernel
theorem dX3_moveAll_82 : decode cX3_moveAll 82 = .ok (.aload_n 1, 1) := by decide +kernel
theorem dX3_moveAll_83 : decode cX3_moveAll 83 = .ok (.iload_n 2, 1) := by decide +kernel
theorem dX3_moveAll_84 : decode cX3_moveAll 84 = .ok (.invokestatic 75, 3) := by decide +kernel
theorem dX3_moveAll_87 : decode cX3_moveAll 87 = .ok (.aload_n 1, 1) := by decide +kernel
theorem dX3_moveAll_88 : decode cX3_moveAll 88 = .ok (.iconst 2, 1) := by decide +kernel
theorem dX3_moveAll_89 : decode cX3_moveAll 89 = .ok (.dup2, 1) := by decide +kernel
theorem dX3_moveAll_90 : decode cX3_moveAll 90 = .ok (.iaload, 1) := by decide +kernel
theorem dX3_moveAll_91 : decode cX3_moveAll 91 = .ok (.iconst 1, 1) := by decide +kernel
theorem dX3_moveAll_92 : decode cX3_moveAll 92 = .ok (.iadd, 1) := by decide +kernel
theorem dX3_moveAll_93 : decode cX3_moveAll 93 = .ok (.iastore, 1) := by decide +kernel
theorem dX3_moveAll_94 : decode cX3_moveAll 94 = .ok (.iconst 0, 1) := by decide +kernel
theorem dX3_moveAll_95 : decode cX3_moveAll 95 = .ok (.istore_n 3, 1) := by decide +kernel
theorem dX3_moveAll_96 : decode cX3_moveAll 96 = .ok (.iload_n 3, 1) := by decide +kernel
theorem dX3_moveAll_97 : decode cX3_moveAll 97 = .ok (.aload_n 1, 1) := by decide +kernel
theorem dX3_moveAll_98 : decode cX3_moveAll 98 = .ok (.iload_n 2, 1) := by decide +kernel
theorem dX3_moveAll_99 : decode cX3_moveAll 99 = .ok (.iconst 0, 1) := by decide +kernel
theorem dX3_moveAll_100 : decode cX3_moveAll 100 = .ok (.invokestatic 48, 3) := by decide +kernel
theorem dX3_moveAll_103 : decode cX3_moveAll 103 = .ok (.if_icmp .ge 23, 3) := by decide +kernel
theorem dX3_moveAll_106 : decode cX3_moveAll 106 = .ok (.aload_n 0, 1) := by decide +kernel
theorem dX3_moveAll_107 : decode cX3_moveAll 107 = .ok (.getfield 29, 3) := by decide +kernel
theorem dX3_moveAll_110 : decode cX3_moveAll 110 = .ok (.iload_n 3, 1) := by decide +kernel
theorem dX3_moveAll_111 : decode cX3_moveAll 111 = .ok (.aload_n 0, 1) := by decide +kernel
theorem dX3_moveAll_112 : decode cX3_moveAll 112 = .ok (.getfield 29, 3) := by decide +kernel
theorem dX3_moveAll_115 : decode cX3_moveAll 115 = .ok (.iload_n 3, 1) := by decide +kernel
theorem dX3_moveAll_116 : decode cX3_moveAll 116 = .ok (.iconst 1, 1) := by decide +kernel
theorem dX3_moveAll_117 : decode cX3_moveAll 117 = .ok (.iadd, 1) := by decide +kernel
theorem dX3_moveAll_118 : decode cX3_moveAll 118 = .ok (.baload, 1) := by decide +kernel
theorem dX3_moveAll_119 : decode cX3_moveAll 119 = .ok (.bastore, 1) := by decide +kernel
theorem dX3_moveAll_120 : decode cX3_moveAll 120 = .ok (.iinc 3 1, 3) := by decide +kernel
theorem dX3_moveAll_123 : decode cX3_moveAll 123 = .ok (.goto (-27), 3) := by decide +kernel
theorem dX3_moveAll_126 : decode cX3_moveAll 126 = .ok (.return_, 1) := by decide +kernel
theorem dX3_checked_0 : decode cX3_checked 0 = .ok (.iconst 0, 1) := by decide +kernel
theorem dX3_checked_1 : decode cX3_checked 1 = .ok (.istore_n 2, 1) := by decide +kernel
theorem dX3_checked_2 : decode cX3_checked 2 = .ok (.iload_n 2, 1) := by decide +kernel
theorem dX3_checked_3 : decode cX3_checked 3 = .ok (.aload_n 0, 1) := by decide +kernel
theorem dX3_checked_4 : decode cX3_checked 4 = .ok (.iload_n 1, 1) := by decide +kernel
theorem dX3_checked_5 : decode cX3_checked 5 = .ok (.iconst 0, 1) := by decide +kernel
theorem dX3_checked_6 : decode cX3_checked 6 = .ok (.invokestatic 48, 3) := by decide +kernel
theorem dX3_checked_9 : decode cX3_checked 9 = .ok (.if_icmp .ge 33, 3) := by decide +kernel
theorem dX3_checked_12 : decode cX3_checked 12 = .ok (.aload_n 0, 1) := by decide +kernel
theorem dX3_checked_13 : decode cX3_checked 13 = .ok (.iload_n 1, 1) := by decide +kernel
theorem dX3_checked_14 : decode cX3_checked 14 = .ok (.iload_n 2, 1) := by decide +kernel
theorem dX3_checked_15 : decode cX3_checked 15 = .ok (.iconst 4, 1) := by decide +kernel
theorem dX3_checked_16 : decode cX3_checked 16 = .ok (.invokestatic 56, 3) := by decide +kernel
theorem dX3_checked_19 : decode cX3_checked 19 = .ok (.ifCond .ne 17, 3) := by decide +kernel
theorem dX3_checked_22 : decode cX3_checked 22 = .ok (.aload_n 0, 1) := by decide +kernel
theorem dX3_checked_23 : decode cX3_checked 23 = .ok (.iload_n 1, 1) := by decide +kernel
theorem dX3_checked_24 : decode cX3_checked 24 = .ok (.iload_n 2, 1) := by decide +kernel
theorem dX3_checked_25 : decode cX3_checked 25 = .ok (.iconst 1, 1) := by decide +kernel
theorem dX3_checked_26 : decode cX3_checked 26 = .ok (.invokestatic 56, 3) := by decide +kernel
theorem dX3_checked_29 : decode cX3_checked 29 = .ok (.bipush 19, 2) := by decide +kernel
theorem dX3_checked_31 : decode cX3_checked 31 = .ok (.if_icmp .ne 5, 3) := by decide +kernel
theorem dX3_checked_34 : decode cX3_checked 34 = .ok (.iload_n 2, 1) := by decide +kernel
theorem dX3_checked_35 : decode cX3_checked 35 = .ok (.ireturn, 1) := by decide +kernel
theorem dX3_checked_36 : decode cX3_checked 36 = .ok (.iinc 2 1, 3) := by decide +kernel
theorem dX3_checked_39 : decode cX3_checked 39 = .ok (.goto (-37), 3) := by decide +kernel
theorem dX3_checked_42 : decode cX3_checked 42 = .ok (.iconst (-1), 1) := by decide +kernel
theorem dX3_checked_43 : decode cX3_checked 43 = .ok (.ireturn, 1) := by decide +kernel
theorem dX3_check_0 : decode cX3_check 0 = .ok (.aload_n 0, 1) := by decide +kernel
theorem dX3_check_1 : decode cX3_check 1 = .ok (.iload_n 1, 1) := by decide +kernel
theorem dX3_check_2 : decode cX3_check 2 = .ok (.invokestatic 79, 3) := by decide +kernel
theorem dX3_check_5 : decode cX3_check 5 = .ok (.istore_n 2, 1) := by decide +kernel
theorem dX3_check_6 : decode cX3_check 6 = .ok (.iload_n 2, 1) := by decide +kernel
theorem dX3_check_7 : decode cX3_check 7 = .ok (.iconst (-1), 1) := by decide +kernel
theorem dX3_check_8 : decode cX3_check 8 = .ok (.if_icmp .ne 12, 3) := by decide +kernel
theorem dX3_check_11 : decode cX3_check 11 = .ok (.aload_n 0, 1) := by decide +kernel
theorem dX3_check_12 : decode cX3_check 12 = .ok (.iload_n 1, 1) := by decide +kernel
theorem dX3_check_13 : decode cX3_check 13 = .ok (.bipush 6, 2) := by decide +kernel
theorem dX3_check_15 : decode cX3_check 15 = .ok (.iconst 0, 1) := by decide +kernel
theorem dX3_check_16 : decode cX3_check 16 = .ok (.invokestatic 67, 3) := by decide +kernel
theorem dX3_check_19 : decode cX3_check 19 = .ok (.return_, 1) := by decide +kernel
theorem dX3_check_20 : decode cX3_check 20 = .ok (.aload_n 0, 1) := by decide +kernel
theorem dX3_check_21 : decode cX3_check 21 = .ok (.iload_n 1, 1) := by decide +kernel
theorem dX3_check_22 : decode cX3_check 22 = .ok (.bipush 6, 2) := by decide +kernel
theorem dX3_check_24 : decode cX3_check 24 = .ok (.invokestatic 48, 3) := by decide +kernel
theorem dX3_check_27 : decode cX3_check 27 = .ok (.iconst 1, 1) := by decide +kernel
theorem dX3_check_28 : decode cX3_check 28 = .ok (.iadd, 1) := by decide +kernel
theorem dX3_check_29 : decode cX3_check 29 = .ok (.istore_n 3, 1) := by decide +kernel
theorem dX3_check_30 : decode cX3_check 30 = .ok (.aload_n 0, 1) := by decide +kernel
theorem dX3_check_31 : decode cX3_check 31 = .ok (.iload_n 1, 1) := by decide +kernel
theorem dX3_check_32 : decode cX3_check 32 = .ok (.iload_n 2, 1) := by decide +kernel
theorem dX3_check_33 : decode cX3_check 33 = .ok (.iconst 2, 1) := by decide +kernel
theorem dX3_check_34 : decode cX3_check 34 = .ok (.invokestatic 56, 3) := by decide +kernel
theorem dX3_check_37 : decode cX3_check 37 = .ok (.iconst 1, 1) := by decide +kernel
theorem dX3_check_38 : decode cX3_check 38 = .ok (.if_icmp .ne 7, 3) := by decide +kernel
theorem dX3_check_41 : decode cX3_check 41 = .ok (.iconst 1, 1) := by decide +kernel
theorem dX3_check_42 : decode cX3_check 42 = .ok (.goto 4, 3) := by decide +kernel
theorem dX3_check_45 : decode cX3_check 45 = .ok (.iconst 0, 1) := by decide +kernel
theorem dX3_check_46 : decode cX3_check 46 = .ok (.istore 4, 2) := by decide +kernel
theorem dX3_check_48 : decode cX3_check 48 = .ok (.iload_n 3, 1) := by decide +kernel
theorem dX3_check_49 : decode cX3_check 49 = .ok (.aload_n 0, 1) := by decide +kernel
theorem dX3_check_50 : decode cX3_check 50 = .ok (.bipush 7, 2) := by decide +kernel
theorem dX3_check_52 : decode cX3_check 52 = .ok (.iload 4, 2) := by decide +kernel
theorem dX3_check_54 : decode cX3_check 54 = .ok (.ifCond .eq 7, 3) := by decide +kernel
theorem dX3_check_57 : decode cX3_check 57 = .ok (.iconst 1, 1) := by decide +kernel
theorem dX3_check_58 : decode cX3_check 58 = .ok (.goto 4, 3) := by decide +kernel
theorem dX3_check_61 : decode cX3_check 61 = .ok (.iconst 0, 1) := by decide +kernel
theorem dX3_check_62 : decode cX3_check 62 = .ok (.iadd, 1) := by decide +kernel
theorem dX3_check_63 : decode cX3_check 63 = .ok (.iaload, 1) := by decide +kernel
theorem dX3_check_64 : decode cX3_check 64 = .ok (.if_icmp .lt 7, 3) := by decide +kernel
theorem dX3_check_67 : decode cX3_check 67 = .ok (.iconst 1, 1) := by decide +kernel
theorem dX3_check_68 : decode cX3_check 68 = .ok (.goto 4, 3) := by decide +kernel
theorem dX3_check_71 : decode cX3_check 71 = .ok (.iconst 0, 1) := by decide +kernel
theorem dX3_check_72 : decode cX3_check 72 = .ok (.istore 5, 2) := by decide +kernel
theorem dX3_check_74 : decode cX3_check 74 = .ok (.aload_n 0, 1) := by decide +kernel
theorem dX3_check_75 : decode cX3_check 75 = .ok (.iload_n 1, 1) := by decide +kernel
theorem dX3_check_76 : decode cX3_check 76 = .ok (.bipush 6, 2) := by decide +kernel
theorem dX3_check_78 : decode cX3_check 78 = .ok (.iload 5, 2) := by decide +kernel
theorem dX3_check_80 : decode cX3_check 80 = .ok (.ifCond .eq 7, 3) := by decide +kernel
theorem dX3_check_83 : decode cX3_check 83 = .ok (.iconst 0, 1) := by decide +kernel
theorem dX3_check_84 : decode cX3_check 84 = .ok (.goto 4, 3) := by decide +kernel
theorem dX3_check_87 : decode cX3_check 87 = .ok (.iload_n 3, 1) := by decide +kernel
theorem dX3_check_88 : decode cX3_check 88 = .ok (.invokestatic 67, 3) := by decide +kernel
theorem dX3_check_91 : decode cX3_check 91 = .ok (.iload 5, 2) := by decide +kernel
theorem dX3_check_93 : decode cX3_check 93 = .ok (.ifCond .eq 51, 3) := by decide +kernel
theorem dX3_check_96 : decode cX3_check 96 = .ok (.aload_n 0, 1) := by decide +kernel
theorem dX3_check_97 : decode cX3_check 97 = .ok (.iload_n 1, 1) := by decide +kernel
theorem dX3_check_98 : decode cX3_check 98 = .ok (.iload_n 2, 1) := by decide +kernel
theorem dX3_check_99 : decode cX3_check 99 = .ok (.iconst 4, 1) := by decide +kernel
theorem dX3_check_100 : decode cX3_check 100 = .ok (.invokestatic 52, 3) := by decide +kernel
theorem dX3_check_103 : decode cX3_check 103 = .ok (.iconst 1, 1) := by decide +kernel
theorem dX3_check_104 : decode cX3_check 104 = .ok (.invokestatic 67, 3) := by decide +kernel
theorem dX3_check_107 : decode cX3_check 107 = .ok (.aload_n 0, 1) := by decide +kernel
theorem dX3_check_108 : decode cX3_check 108 = .ok (.iload_n 1, 1) := by decide +kernel
theorem dX3_check_109 : decode cX3_check 109 = .ok (.iconst 2, 1) := by decide +kernel
theorem dX3_check_110 : decode cX3_check 110 = .ok (.aload_n 0, 1) := by decide +kernel
theorem dX3_check_111 : decode cX3_check 111 = .ok (.iload_n 1, 1) := by decide +kernel
theorem dX3_check_112 : decode cX3_check 112 = .ok (.iconst 3, 1) := by decide +kernel
theorem dX3_check_113 : decode cX3_check 113 = .ok (.invokestatic 48, 3) := by decide +kernel
theorem dX3_check_116 : decode cX3_check 116 = .ok (.bipush 8, 2) := by decide +kernel
theorem dX3_check_118 : decode cX3_check 118 = .ok (.idiv, 1) := by decide +kernel
theorem dX3_check_119 : decode cX3_check 119 = .ok (.aload_n 0, 1) := by decide +kernel
theorem dX3_check_120 : decode cX3_check 120 = .ok (.bipush 9, 2) := by decide +kernel
theorem dX3_check_122 : decode cX3_check 122 = .ok (.iaload, 1) := by decide +kernel
theorem dX3_check_123 : decode cX3_check 123 = .ok (.iadd, 1) := by decide +kernel
theorem dX3_check_124 : decode cX3_check 124 = .ok (.invokestatic 67, 3) := by decide +kernel
theorem dX3_check_127 : decode cX3_check 127 = .ok (.aload_n 0, 1) := by decide +kernel
theorem dX3_check_128 : decode cX3_check 128 = .ok (.bipush 6, 2) := by decide +kernel
theorem dX3_check_130 : decode cX3_check 130 = .ok (.dup2, 1) := by decide +kernel
theorem dX3_check_131 : decode cX3_check 131 = .ok (.iaload, 1) := by decide +kernel
theorem dX3_check_132 : decode cX3_check 132 = .ok (.iload 4, 2) := by decide +kernel
theorem dX3_check_134 : decode cX3_check 134 = .ok (.ifCond .eq 7, 3) := by decide +kernel
theorem dX3_check_137 : decode cX3_check 137 = .ok (.iconst 1, 1) := by decide +kernel
theorem dX3_check_138 : decode cX3_check 138 = .ok (.goto 4, 3) := by decide +kernel
theorem dX3_check_141 : decode cX3_check 141 = .ok (.iconst 0, 1) := by decide +kernel
theorem dX3_check_142 : decode cX3_check 142 = .ok (.iadd, 1) := by decide +kernel
theorem dX3_check_143 : decode cX3_check 143 = .ok (.iastore, 1) := by decide +kernel
theorem dX3_check_144 : decode cX3_check 144 = .ok (.return_, 1) := by decide +kernel
theorem dX3_reason_0 : decode cX3_reason 0 = .ok (.iconst 0, 1) := by decide +kernel
theorem dX3_reason_1 : decode cX3_reason 1 = .ok (.istore_n 2, 1) := by decide +kernel
theorem dX3_reason_2 : decode cX3_reason 2 = .ok (.iconst 0, 1) := by decide +kernel
theorem dX3_reason_3 : decode cX3_reason 3 = .ok (.istore_n 3, 1) := by decide +kernel
theorem dX3_reason_4 : decode cX3_reason 4 = .ok (.iload_n 3, 1) := by decide +kernel
theorem dX3_reason_5 : decode cX3_reason 5 = .ok (.aload_n 0, 1) := by decide +kernel
theorem dX3_reason_6 : decode cX3_reason 6 = .ok (.iload_n 1, 1) := by decide +kernel
theorem dX3_reason_7 : decode cX3_reason 7 = .ok (.iconst 0, 1) := by decide +kernel
theorem dX3_reason_8 : decode cX3_reason 8 = .ok (.invokestatic 48, 3) := by decide +kernel
theorem dX3_reason_11 : decode cX3_reason 11 = .ok (.if_icmp .ge 105, 3) := by decide +kernel
theorem dX3_reason_14 : decode cX3_reason 14 = .ok (.aload_n 0, 1) := by decide +kernel
theorem dX3_reason_15 : decode cX3_reason 15 = .ok (.iload_n 1, 1) := by decide +kernel
theorem dX3_reason_16 : decode cX3_reason 16 = .ok (.iload_n 3, 1) := by decide +kernel
theorem dX3_reason_17 : decode cX3_reason 17 = .ok (.iconst 1, 1) := by decide +kernel
theorem dX3_reason_18 : decode cX3_reason 18 = .ok (.invokestatic 56, 3) := by decide +kernel
theorem dX3_reason_21 : decode cX3_reason 21 = .ok (.istore 4, 2) := by decide +kernel
theorem dX3_reason_23 : decode cX3_reason 23 = .ok (.aload_n 0, 1) := by decide +kernel
theorem dX3_reason_24 : decode cX3_reason 24 = .ok (.iload_n 1, 1) := by decide +kernel
theorem dX3_reason_25 : decode cX3_reason 25 = .ok (.iload_n 3, 1) := by decide +kernel
theorem dX3_reason_26 : decode cX3_reason 26 = .ok (.iconst 4, 1) := by decide +kernel
theorem dX3_reason_27 : decode cX3_reason 27 = .ok (.invokestatic 56, 3) := by decide +kernel
theorem dX3_reason_30 : decode cX3_reason 30 = .ok (.iconst 1, 1) := by decide +kernel
theorem dX3_reason_31 : decode cX3_reason 31 = .ok (.if_icmp .ne 12, 3) := by decide +kernel
theorem dX3_reason_34 : decode cX3_reason 34 = .ok (.iload 4, 2) := by decide +kernel
theorem dX3_reason_36 : decode cX3_reason 36 = .ok (.bipush 20, 2) := by decide +kernel
theorem dX3_reason_38 : decode cX3_reason 38 = .ok (.if_icmp .ge 5, 3) := by decide +kernel
theorem dX3_reason_41 : decode cX3_reason 41 = .ok (.iconst 1, 1) := by decide +kernel
theorem dX3_reason_42 : decode cX3_reason 42 = .ok (.ireturn, 1) := by decide +kernel
theorem dX3_reason_43 : decode cX3_reason 43 = .ok (.aload_n 0, 1) := by decide +kernel
theorem dX3_reason_44 : decode cX3_reason 44 = .ok (.iload_n 1, 1) := by decide +kernel
theorem dX3_reason_45 : decode cX3_reason 45 = .ok (.iload_n 3, 1) := by decide +kernel
theorem dX3_reason_46 : decode cX3_reason 46 = .ok (.bipush 19, 2) := by decide +kernel
theorem dX3_reason_48 : decode cX3_reason 48 = .ok (.invokestatic 63, 3) := by decide +kernel
theorem dX3_reason_51 : decode cX3_reason 51 = .ok (.ifCond .ne 25, 3) := by decide +kernel
theorem dX3_reason_54 : decode cX3_reason 54 = .ok (.aload_n 0, 1) := by decide +kernel
theorem dX3_reason_55 : decode cX3_reason 55 = .ok (.iload_n 1, 1) := by decide +kernel
theorem dX3_reason_56 : decode cX3_reason 56 = .ok (.iload_n 3, 1) := by decide +kernel
theorem dX3_reason_57 : decode cX3_reason 57 = .ok (.bipush 20, 2) := by decide +kernel
theorem dX3_reason_59 : decode cX3_reason 59 = .ok (.invokestatic 63, 3) := by decide +kernel
theorem dX3_reason_62 : decode cX3_reason 62 = .ok (.ifCond .ne 14, 3) := by decide +kernel
theorem dX3_reason_65 : decode cX3_reason 65 = .ok (.aload_n 0, 1) := by decide +kernel
theorem dX3_reason_66 : decode cX3_reason 66 = .ok (.iload_n 1, 1) := by decide +kernel
theorem dX3_reason_67 : decode cX3_reason 67 = .ok (.iload_n 3, 1) := by decide +kernel
theorem dX3_reason_68 : decode cX3_reason 68 = .ok (.bipush 21, 2) := by decide +kernel
theorem dX3_reason_70 : decode cX3_reason 70 = .ok (.invokestatic 63, 3) := by decide +kernel
theorem dX3_reason_73 : decode cX3_reason 73 = .ok (.ifCond .eq 7, 3) := by decide +kernel
theorem dX3_reason_76 : decode cX3_reason 76 = .ok (.iconst 1, 1) := by decide +kernel
theorem dX3_reason_77 : decode cX3_reason 77 = .ok (.goto 4, 3) := by decide +kernel
theorem dX3_reason_80 : decode cX3_reason 80 = .ok (.iconst 0, 1) := by decide +kernel
theorem dX3_reason_81 : decode cX3_reason 81 = .ok (.istore 5, 2) := by decide +kernel
theorem dX3_reason_83 : decode cX3_reason 83 = .ok (.iload 5, 2) := by decide +kernel
theorem dX3_reason_85 : decode cX3_reason 85 = .ok (.ifCond .eq 23, 3) := by decide +kernel
theorem dX3_reason_88 : decode cX3_reason 88 = .ok (.iload 4, 2) := by decide +kernel
theorem dX3_reason_90 : decode cX3_reason 90 = .ok (.bipush 20, 2) := by decide +kernel
theorem dX3_reason_92 : decode cX3_reason 92 = .ok (.if_icmp .lt 16, 3) := by decide +kernel
theorem dX3_reason_95 : decode cX3_reason 95 = .ok (.aload_n 0, 1) := by decide +kernel
theorem dX3_reason_96 : decode cX3_reason 96 = .ok (.iload_n 1, 1) := by decide +kernel
theorem dX3_reason_97 : decode cX3_reason 97 = .ok (.iconst 4, 1) := by decide +kernel
theorem dX3_reason_98 : decode cX3_reason 98 = .ok (.invokestatic 48, 3) := by decide +kernel
theorem dX3_reason_101 : decode cX3_reason 101 = .ok (.ifCond .ne 7, 3) := by decide +kernel
theorem dX3_reason_104 : decode cX3_reason 104 = .ok (.iconst 2, 1) := by decide +kernel
theorem dX3_reason_105 : decode cX3_reason 105 = .ok (.goto 4, 3) := by decide +kernel
theorem dX3_reason_108 : decode cX3_reason 108 = .ok (.iload_n 2, 1) := by decide +kernel
theorem dX3_reason_109 : decode cX3_reason 109 = .ok (.istore_n 2, 1) := by decide +kernel
theorem dX3_reason_110 : decode cX3_reason 110 = .ok (.iinc 3 1, 3) := by decide +kernel
theorem dX3_reason_113 : decode cX3_reason 113 = .ok (.goto (-109), 3) := by decide +kernel
theorem dX3_reason_116 : decode cX3_reason 116 = .ok (.iload_n 2, 1) := by decide +kernel
theorem dX3_reason_117 : decode cX3_reason 117 = .ok (.ifCond .le 7, 3) := by decide +kernel
theorem dX3_reason_120 : decode cX3_reason 120 = .ok (.iload_n 2, 1) := by decide +kernel
theorem dX3_reason_121 : decode cX3_reason 121 = .ok (.goto 17, 3) := by decide +kernel
theorem dX3_reason_124 : decode cX3_reason 124 = .ok (.aload_n 0, 1) := by decide +kernel
theorem dX3_reason_125 : decode cX3_reason 125 = .ok (.iload_n 1, 1) := by decide +kernel
theorem dX3_reason_126 : decode cX3_reason 126 = .ok (.iconst 2, 1) := by decide +kernel
theorem dX3_reason_127 : decode cX3_reason 127 = .ok (.invokestatic 48, 3) := by decide +kernel
theorem dX3_reason_130 : decode cX3_reason 130 = .ok (.ifCond .le 7, 3) := by decide +kernel
theorem dX3_reason_133 : decode cX3_reason 133 = .ok (.iconst 3, 1) := by decide +kernel
theorem dX3_reason_134 : decode cX3_reason 134 = .ok (.goto 4, 3) := by decide +kernel
theorem dX3_reason_137 : decode cX3_reason 137 = .ok (.iconst 0, 1) := by decide +kernel
theorem dX3_reason_138 : decode cX3_reason 138 = .ok (.ireturn, 1) := by decide +kernel
theorem dX3_turnArm_0 : decode cX3_turnArm 0 = .ok (.aload_n 0, 1) := by decide +kernel
theorem dX3_turnArm_1 : decode cX3_turnArm 1 = .ok (.iload_n 1, 1) := by decide +kernel
theorem dX3_turnArm_2 : decode cX3_turnArm 2 = .ok (.iconst 5, 1) := by decide +kernel
theorem dX3_turnArm_3 : decode cX3_turnArm 3 = .ok (.invokestatic 48, 3) := by decide +kernel
theorem dX3_turnArm_6 : decode cX3_turnArm 6 = .ok (.iconst 1, 1) := by decide +kernel
theorem dX3_turnArm_7 : decode cX3_turnArm 7 = .ok (.if_icmp .ne 4, 3) := by decide +kernel
theorem dX3_turnArm_10 : decode cX3_turnArm 10 = .ok (.return_, 1) := by decide +kernel
theorem dX3_turnArm_11 : decode cX3_turnArm 11 = .ok (.aload_n 0, 1) := by decide +kernel
theorem dX3_turnArm_12 : decode cX3_turnArm 12 = .ok (.iload_n 1, 1) := by decide +kernel
theorem dX3_turnArm_13 : decode cX3_turnArm 13 = .ok (.iconst 1, 1) := by decide +kernel
theorem dX3_turnArm_14 : decode cX3_turnArm 14 = .ok (.invokestatic 48, 3) := by decide +kernel
theorem dX3_turnArm_17 : decode cX3_turnArm 17 = .ok (.aload_n 0, 1) := by decide +kernel
theorem dX3_turnArm_18 : decode cX3_turnArm 18 = .ok (.iload_n 1, 1) := by decide +kernel
theorem dX3_turnArm_19 : decode cX3_turnArm 19 = .ok (.invokestatic 83, 3) := by decide +kernel
theorem dX3_turnArm_22 : decode cX3_turnArm 22 = .ok (.ifCond .le 7, 3) := by decide +kernel
theorem dX3_turnArm_25 : decode cX3_turnArm 25 = .ok (.iconst 1, 1) := by decide +kernel
theorem dX3_turnArm_26 : decode cX3_turnArm 26 = .ok (.goto 4, 3) := by decide +kernel
theorem dX3_turnArm_29 : decode cX3_turnArm 29 = .ok (.iconst (-1), 1) := by decide +kernel
theorem dX3_turnArm_30 : decode cX3_turnArm 30 = .ok (.iadd, 1) := by decide +kernel
theorem dX3_turnArm_31 : decode cX3_turnArm 31 = .ok (.istore_n 2, 1) := by decide +kernel
theorem dX3_turnArm_32 : decode cX3_turnArm 32 = .ok (.iload_n 2, 1) := by decide +kernel
theorem dX3_turnArm_33 : decode cX3_turnArm 33 = .ok (.ifCond .ge 7, 3) := by decide +kernel
theorem dX3_turnArm_36 : decode cX3_turnArm 36 = .ok (.iconst 0, 1) := by decide +kernel
theorem dX3_turnArm_37 : decode cX3_turnArm 37 = .ok (.goto 13, 3) := by decide +kernel
theorem dX3_turnArm_40 : decode cX3_turnArm 40 = .ok (.iload_n 2, 1) := by decide +kernel
theorem dX3_turnArm_41 : decode cX3_turnArm 41 = .ok (.iconst 4, 1) := by decide +kernel
theorem dX3_turnArm_42 : decode cX3_turnArm 42 = .ok (.if_icmp .le 7, 3) := by decide +kernel
theorem dX3_turnArm_45 : decode cX3_turnArm 45 = .ok (.iconst 4, 1) := by decide +kernel
theorem dX3_turnArm_46 : decode cX3_turnArm 46 = .ok (.goto 4, 3) := by decide +kernel
theorem dX3_turnArm_49 : decode cX3_turnArm 49 = .ok (.iload_n 2, 1) := by decide +kernel
theorem dX3_turnArm_50 : decode cX3_turnArm 50 = .ok (.istore_n 2, 1) := by decide +kernel
theorem dX3_turnArm_51 : decode cX3_turnArm 51 = .ok (.aload_n 0, 1) := by decide +kernel
theorem dX3_turnArm_52 : decode cX3_turnArm 52 = .ok (.iload_n 1, 1) := by decide +kernel
theorem dX3_turnArm_53 : decode cX3_turnArm 53 = .ok (.iconst 1, 1) := by decide +kernel
theorem dX3_turnArm_54 : decode cX3_turnArm 54 = .ok (.iload_n 2, 1) := by decide +kernel
theorem dX3_turnArm_55 : decode cX3_turnArm 55 = .ok (.invokestatic 67, 3) := by decide +kernel
theorem dX3_turnArm_58 : decode cX3_turnArm 58 = .ok (.aload_n 0, 1) := by decide +kernel
theorem dX3_turnArm_59 : decode cX3_turnArm 59 = .ok (.iload_n 1, 1) := by decide +kernel
theorem dX3_turnArm_60 : decode cX3_turnArm 60 = .ok (.iconst 2, 1) := by decide +kernel
theorem dX3_turnArm_61 : decode cX3_turnArm 61 = .ok (.invokestatic 48, 3) := by decide +kernel
theorem dX3_turnArm_64 : decode cX3_turnArm 64 = .ok (.istore_n 3, 1) := by decide +kernel
theorem dX3_turnArm_65 : decode cX3_turnArm 65 = .ok (.aload_n 0, 1) := by decide +kernel
theorem dX3_turnArm_66 : decode cX3_turnArm 66 = .ok (.iload_n 1, 1) := by decide +kernel
theorem dX3_turnArm_67 : decode cX3_turnArm 67 = .ok (.iconst 2, 1) := by decide +kernel
theorem dX3_turnArm_68 : decode cX3_turnArm 68 = .ok (.iload_n 2, 1) := by decide +kernel
theorem dX3_turnArm_69 : decode cX3_turnArm 69 = .ok (.iconst 4, 1) := by decide +kernel
theorem dX3_turnArm_70 : decode cX3_turnArm 70 = .ok (.if_icmp .ne 13, 3) := by decide +kernel
theorem dX3_turnArm_73 : decode cX3_turnArm 73 = .ok (.iload_n 3, 1) := by decide +kernel
theorem dX3_turnArm_74 : decode cX3_turnArm 74 = .ok (.ifCond .le 9, 3) := by decide +kernel
theorem dX3_turnArm_77 : decode cX3_turnArm 77 = .ok (.iload_n 3, 1) := by decide +kernel
theorem dX3_turnArm_78 : decode cX3_turnArm 78 = .ok (.iconst 1, 1) := by decide +kernel
theorem dX3_turnArm_79 : decode cX3_turnArm 79 = .ok (.isub, 1) := by decide +kernel
theorem dX3_turnArm_80 : decode cX3_turnArm 80 = .ok (.goto 4, 3) := by decide +kernel
theorem dX3_turnArm_83 : decode cX3_turnArm 83 = .ok (.iload_n 3, 1) := by decide +kernel
theorem dX3_turnArm_84 : decode cX3_turnArm 84 = .ok (.invokestatic 67, 3) := by decide +kernel
theorem dX3_turnArm_87 : decode cX3_turnArm 87 = .ok (.return_, 1) := by decide +kernel
theorem dX3_hit_0 : decode cX3_hit 0 = .ok (.aload_n 0, 1) := by decide +kernel
theorem dX3_hit_1 : decode cX3_hit 1 = .ok (.iload_n 1, 1) := by decide +kernel
theorem dX3_hit_2 : decode cX3_hit 2 = .ok (.iconst 5, 1) := by decide +kernel
theorem dX3_hit_3 : decode cX3_hit 3 = .ok (.invokestatic 48, 3) := by decide +kernel
theorem dX3_hit_6 : decode cX3_hit 6 = .ok (.ifCond .ne 35, 3) := by decide +kernel
theorem dX3_hit_9 : decode cX3_hit 9 = .ok (.aload_n 0, 1) := by decide +kernel
theorem dX3_hit_10 : decode cX3_hit 10 = .ok (.iload_n 1, 1) := by decide +kernel
theorem dX3_hit_11 : decode cX3_hit 11 = .ok (.iconst 1, 1) := by decide +kernel
theorem dX3_hit_12 : decode cX3_hit 12 = .ok (.invokestatic 48, 3) := by decide +kernel
theorem dX3_hit_15 : decode cX3_hit 15 = .ok (.iconst 4, 1) := by decide +kernel
theorem dX3_hit_16 : decode cX3_hit 16 = .ok (.if_icmp .ge 25, 3) := by decide +kernel
theorem dX3_hit_19 : decode cX3_hit 19 = .ok (.aload_n 0, 1) := by decide +kernel
theorem dX3_hit_20 : decode cX3_hit 20 = .ok (.iload_n 1, 1) := by decide +kernel
theorem dX3_hit_21 : decode cX3_hit 21 = .ok (.invokestatic 86, 3) := by decide +kernel
theorem dX3_hit_24 : decode cX3_hit 24 = .ok (.ifCond .eq 17, 3) := by decide +kernel
theorem dX3_hit_27 : decode cX3_hit 27 = .ok (.aload_n 0, 1) := by decide +kernel
theorem dX3_hit_28 : decode cX3_hit 28 = .ok (.iload_n 1, 1) := by decide +kernel
theorem dX3_hit_29 : decode cX3_hit 29 = .ok (.iconst 5, 1) := by decide +kernel
theorem dX3_hit_30 : decode cX3_hit 30 = .ok (.iconst 1, 1) := by decide +kernel
theorem dX3_hit_31 : decode cX3_hit 31 = .ok (.invokestatic 67, 3) := by decide +kernel
theorem dX3_hit_34 : decode cX3_hit 34 = .ok (.aload_n 0, 1) := by decide +kernel
theorem dX3_hit_35 : decode cX3_hit 35 = .ok (.iconst 5, 1) := by decide +kernel
theorem dX3_hit_36 : decode cX3_hit 36 = .ok (.dup2, 1) := by decide +kernel
theorem dX3_hit_37 : decode cX3_hit 37 = .ok (.iaload, 1) := by decide +kernel
theorem dX3_hit_38 : decode cX3_hit 38 = .ok (.iconst 1, 1) := by decide +kernel
theorem dX3_hit_39 : decode cX3_hit 39 = .ok (.iadd, 1) := by decide +kernel
theorem dX3_hit_40 : decode cX3_hit 40 = .ok (.iastore, 1) := by decide +kernel
theorem dX3_hit_41 : decode cX3_hit 41 = .ok (.return_, 1) := by decide +kernel
theorem dX3_goThrough_0 : decode cX3_goThrough 0 = .ok (.iconst 0, 1) := by decide +kernel
theorem dX3_goThrough_1 : decode cX3_goThrough 1 = .ok (.istore_n 3, 1) := by decide +kernel
theorem dX3_goThrough_2 : decode cX3_goThrough 2 = .ok (.iload_n 3, 1) := by decide +kernel
theorem dX3_goThrough_3 : decode cX3_goThrough 3 = .ok (.aload_n 1, 1) := by decide +kernel
theorem dX3_goThrough_4 : decode cX3_goThrough 4 = .ok (.iload_n 2, 1) := by decide +kernel
theorem dX3_goThrough_5 : decode cX3_goThrough 5 = .ok (.iconst 0, 1) := by decide +kernel
theorem dX3_goThrough_6 : decode cX3_goThrough 6 = .ok (.invokestatic 48, 3) := by decide +kernel
theorem dX3_goThrough_9 : decode cX3_goThrough 9 = .ok (.if_icmp .ge 121, 3) := by decide +kernel
theorem dX3_goThrough_12 : decode cX3_goThrough 12 = .ok (.aload_n 0, 1) := by decide +kernel
theorem dX3_goThrough_13 : decode cX3_goThrough 13 = .ok (.getfield 29, 3) := by decide +kernel
theorem dX3_goThrough_16 : decode cX3_goThrough 16 = .ok (.iload_n 3, 1) := by decide +kernel
theorem dX3_goThrough_17 : decode cX3_goThrough 17 = .ok (.baload, 1) := by decide +kernel
theorem dX3_goThrough_18 : decode cX3_goThrough 18 = .ok (.ifCond .eq 106, 3) := by decide +kernel
theorem dX3_goThrough_21 : decode cX3_goThrough 21 = .ok (.aload_n 1, 1) := by decide +kernel
theorem dX3_goThrough_22 : decode cX3_goThrough 22 = .ok (.iload_n 2, 1) := by decide +kernel
theorem dX3_goThrough_23 : decode cX3_goThrough 23 = .ok (.iload_n 3, 1) := by decide +kernel
theorem dX3_goThrough_24 : decode cX3_goThrough 24 = .ok (.invokestatic 60, 3) := by decide +kernel
theorem dX3_goThrough_27 : decode cX3_goThrough 27 = .ok (.bipush 21, 2) := by decide +kernel
theorem dX3_goThrough_29 : decode cX3_goThrough 29 = .ok (.if_icmp .ne 95, 3) := by decide +kernel
theorem dX3_goThrough_32 : decode cX3_goThrough 32 = .ok (.aload_n 1, 1) := by decide +kernel
theorem dX3_goThrough_33 : decode cX3_goThrough 33 = .ok (.iload_n 2, 1) := by decide +kernel
theorem dX3_goThrough_34 : decode cX3_goThrough 34 = .ok (.iload_n 3, 1) := by decide +kernel
theorem dX3_goThrough_35 : decode cX3_goThrough 35 = .ok (.iconst 4, 1) := by decide +kernel
theorem dX3_goThrough_36 : decode cX3_goThrough 36 = .ok (.invokestatic 56, 3) := by decide +kernel
theorem dX3_goThrough_39 : decode cX3_goThrough 39 = .ok (.iconst 1, 1) := by decide +kernel
theorem dX3_goThrough_40 : decode cX3_goThrough 40 = .ok (.if_icmp .ne 7, 3) := by decide +kernel
theorem dX3_goThrough_43 : decode cX3_goThrough 43 = .ok (.iconst 1, 1) := by decide +kernel
theorem dX3_goThrough_44 : decode cX3_goThrough 44 = .ok (.goto 4, 3) := by decide +kernel
theorem dX3_goThrough_47 : decode cX3_goThrough 47 = .ok (.iconst 0, 1) := by decide +kernel
theorem dX3_goThrough_48 : decode cX3_goThrough 48 = .ok (.istore 4, 2) := by decide +kernel
theorem dX3_goThrough_50 : decode cX3_goThrough 50 = .ok (.aload_n 1, 1) := by decide +kernel
theorem dX3_goThrough_51 : decode cX3_goThrough 51 = .ok (.iconst 3, 1) := by decide +kernel
theorem dX3_goThrough_52 : decode cX3_goThrough 52 = .ok (.dup2, 1) := by decide +kernel
theorem dX3_goThrough_53 : decode cX3_goThrough 53 = .ok (.iaload, 1) := by decide +kernel
theorem dX3_goThrough_54 : decode cX3_goThrough 54 = .ok (.iload 4, 2) := by decide +kernel
theorem dX3_goThrough_56 : decode cX3_goThrough 56 = .ok (.ifCond .eq 7, 3) := by decide +kernel
theorem dX3_goThrough_59 : decode cX3_goThrough 59 = .ok (.iconst 1, 1) := by decide +kernel
theorem dX3_goThrough_60 : decode cX3_goThrough 60 = .ok (.goto 4, 3) := by decide +kernel
theorem dX3_goThrough_63 : decode cX3_goThrough 63 = .ok (.iconst 0, 1) := by decide +kernel
theorem dX3_goThrough_64 : decode cX3_goThrough 64 = .ok (.iadd, 1) := by decide +kernel
theorem dX3_goThrough_65 : decode cX3_goThrough 65 = .ok (.iastore, 1) := by decide +kernel
theorem dX3_goThrough_66 : decode cX3_goThrough 66 = .ok (.aload_n 1, 1) := by decide +kernel
theorem dX3_goThrough_67 : decode cX3_goThrough 67 = .ok (.iconst 4, 1) := by decide +kernel
theorem dX3_goThrough_68 : decode cX3_goThrough 68 = .ok (.dup2, 1) := by decide +kernel
theorem dX3_goThrough_69 : decode cX3_goThrough 69 = .ok (.iaload, 1) := by decide +kernel
theorem dX3_goThrough_70 : decode cX3_goThrough 70 = .ok (.iload 4, 2) := by decide +kernel
theorem dX3_goThrough_72 : decode cX3_goThrough 72 = .ok (.ifCond .eq 7, 3) := by decide +kernel
theorem dX3_goThrough_75 : decode cX3_goThrough 75 = .ok (.iconst 0, 1) := by decide +kernel
theorem dX3_goThrough_76 : decode cX3_goThrough 76 = .ok (.goto 4, 3) := by decide +kernel
theorem dX3_goThrough_79 : decode cX3_goThrough 79 = .ok (.iconst 1, 1) := by decide +kernel
theorem dX3_goThrough_80 : decode cX3_goThrough 80 = .ok (.iadd, 1) := by decide +kernel
theorem dX3_goThrough_81 : decode cX3_goThrough 81 = .ok (.iastore, 1) := by decide +kernel
theorem dX3_goThrough_82 : decode cX3_goThrough 82 = .ok (.aload_n 1, 1) := by decide +kernel
theorem dX3_goThrough_83 : decode cX3_goThrough 83 = .ok (.iload_n 2, 1) := by decide +kernel
theorem dX3_goThrough_84 : decode cX3_goThrough 84 = .ok (.iconst 3, 1) := by decide +kernel
theorem dX3_goThrough_85 : decode cX3_goThrough 85 = .ok (.invokestatic 48, 3) := by decide +kernel
theorem dX3_goThrough_88 : decode cX3_goThrough 88 = .ok (.istore 5, 2) := by decide +kernel
theorem dX3_goThrough_90 : decode cX3_goThrough 90 = .ok (.aload_n 1, 1) := by decide +kernel
theorem dX3_goThrough_91 : decode cX3_goThrough 91 = .ok (.iload_n 2, 1) := by decide +kernel
theorem dX3_goThrough_92 : decode cX3_goThrough 92 = .ok (.iconst 3, 1) := by decide +kernel
theorem dX3_goThrough_93 : decode cX3_goThrough 93 = .ok (.iload 4, 2) := by decide +kernel
theorem dX3_goThrough_95 : decode cX3_goThrough 95 = .ok (.ifCond .eq 24, 3) := by decide +kernel
theorem dX3_goThrough_98 : decode cX3_goThrough 98 = .ok (.iload 5, 2) := by decide +kernel
theorem dX3_goThrough_100 : decode cX3_goThrough 100 = .ok (.bipush 8, 2) := by decide +kernel
theorem dX3_goThrough_102 : decode cX3_goThrough 102 = .ok (.aload_n 1, 1) := by decide +kernel
theorem dX3_goThrough_103 : decode cX3_goThrough 103 = .ok (.iload_n 2, 1) := by decide +kernel
theorem dX3_goThrough_104 : decode cX3_goThrough 104 = .ok (.iload_n 3, 1) := by decide +kernel
theorem dX3_goThrough_105 : decode cX3_goThrough 105 = .ok (.iconst 0, 1) := by decide +kernel
theorem dX3_goThrough_106 : decode cX3_goThrough 106 = .ok (.invokestatic 56, 3) := by decide +kernel
theorem dX3_goThrough_109 : decode cX3_goThrough 109 = .ok (.imul, 1) := by decide +kernel
theorem dX3_goThrough_110 : decode cX3_goThrough 110 = .ok (.iload 5, 2) := by decide +kernel
theorem dX3_goThrough_112 : decode cX3_goThrough 112 = .ok (.isub, 1) := by decide +kernel
theorem dX3_goThrough_113 : decode cX3_goThrough 113 = .ok (.iconst 4, 1) := by decide +kernel
theorem dX3_goThrough_114 : decode cX3_goThrough 114 = .ok (.idiv, 1) := by decide +kernel
theorem dX3_goThrough_115 : decode cX3_goThrough 115 = .ok (.iadd, 1) := by decide +kernel
theorem dX3_goThrough_116 : decode cX3_goThrough 116 = .ok (.goto 5, 3) := by decide +kernel
theorem dX3_goThrough_119 : decode cX3_goThrough 119 = .ok (.iload 5, 2) := by decide +kernel
theorem dX3_goThrough_121 : decode cX3_goThrough 121 = .ok (.invokestatic 67, 3) := by decide +kernel
theorem dX3_goThrough_124 : decode cX3_goThrough 124 = .ok (.iinc 3 1, 3) := by decide +kernel
theorem dX3_goThrough_127 : decode cX3_goThrough 127 = .ok (.goto (-125), 3) := by decide +kernel
theorem dX3_goThrough_130 : decode cX3_goThrough 130 = .ok (.return_, 1) := by decide +kernel
theorem dX3_tickOn_0 : decode cX3_tickOn 0 = .ok (.iconst 0, 1) := by decide +kernel
theorem dX3_tickOn_1 : decode cX3_tickOn 1 = .ok (.istore_n 2, 1) := by decide +kernel
theorem dX3_tickOn_2 : decode cX3_tickOn 2 = .ok (.iload_n 2, 1) := by decide +kernel
theorem dX3_tickOn_3 : decode cX3_tickOn 3 = .ok (.aload_n 1, 1) := by decide +kernel
theorem dX3_tickOn_4 : decode cX3_tickOn 4 = .ok (.iconst 0, 1) := by decide +kernel
theorem dX3_tickOn_5 : decode cX3_tickOn 5 = .ok (.iaload, 1) := by decide +kernel
theorem dX3_tickOn_6 : decode cX3_tickOn 6 = .ok (.if_icmp .ge 60, 3) := by decide +kernel
theorem dX3_tickOn_9 : decode cX3_tickOn 9 = .ok (.aload_n 0, 1) := by decide +kernel
theorem dX3_tickOn_10 : decode cX3_tickOn 10 = .ok (.aload_n 1, 1) := by decide +kernel
theorem dX3_tickOn_11 : decode cX3_tickOn 11 = .ok (.iload_n 2, 1) := by decide +kernel
theorem dX3_tickOn_12 : decode cX3_tickOn 12 = .ok (.invokevirtual 89, 3) := by decide +kernel
theorem dX3_tickOn_15 : decode cX3_tickOn 15 = .ok (.aload_n 1, 1) := by decide +kernel
theorem dX3_tickOn_16 : decode cX3_tickOn 16 = .ok (.iload_n 2, 1) := by decide +kernel
theorem dX3_tickOn_17 : decode cX3_tickOn 17 = .ok (.invokestatic 92, 3) := by decide +kernel
theorem dX3_tickOn_20 : decode cX3_tickOn 20 = .ok (.aload_n 1, 1) := by decide +kernel
theorem dX3_tickOn_21 : decode cX3_tickOn 21 = .ok (.iload_n 2, 1) := by decide +kernel
theorem dX3_tickOn_22 : decode cX3_tickOn 22 = .ok (.invokestatic 95, 3) := by decide +kernel
theorem dX3_tickOn_25 : decode cX3_tickOn 25 = .ok (.aload_n 0, 1) := by decide +kernel
theorem dX3_tickOn_26 : decode cX3_tickOn 26 = .ok (.dup, 1) := by decide +kernel
theorem dX3_tickOn_27 : decode cX3_tickOn 27 = .ok (.getfield 98, 3) := by decide +kernel
theorem dX3_tickOn_30 : decode cX3_tickOn 30 = .ok (.aload_n 1, 1) := by decide +kernel
theorem dX3_tickOn_31 : decode cX3_tickOn 31 = .ok (.iload_n 2, 1) := by decide +kernel
theorem dX3_tickOn_32 : decode cX3_tickOn 32 = .ok (.iconst 1, 1) := by decide +kernel
theorem dX3_tickOn_33 : decode cX3_tickOn 33 = .ok (.invokestatic 48, 3) := by decide +kernel
theorem dX3_tickOn_36 : decode cX3_tickOn 36 = .ok (.iconst 4, 1) := by decide +kernel
theorem dX3_tickOn_37 : decode cX3_tickOn 37 = .ok (.if_icmp .ne 7, 3) := by decide +kernel
theorem dX3_tickOn_40 : decode cX3_tickOn 40 = .ok (.iconst 1, 1) := by decide +kernel
theorem dX3_tickOn_41 : decode cX3_tickOn 41 = .ok (.goto 4, 3) := by decide +kernel
theorem dX3_tickOn_44 : decode cX3_tickOn 44 = .ok (.iconst 0, 1) := by decide +kernel
theorem dX3_tickOn_45 : decode cX3_tickOn 45 = .ok (.iadd, 1) := by decide +kernel
theorem dX3_tickOn_46 : decode cX3_tickOn 46 = .ok (.putfield 98, 3) := by decide +kernel
theorem dX3_tickOn_49 : decode cX3_tickOn 49 = .ok (.aload_n 1, 1) := by decide +kernel
theorem dX3_tickOn_50 : decode cX3_tickOn 50 = .ok (.iload_n 2, 1) := by decide +kernel
theorem dX3_tickOn_51 : decode cX3_tickOn 51 = .ok (.invokestatic 101, 3) := by decide +kernel
theorem dX3_tickOn_54 : decode cX3_tickOn 54 = .ok (.aload_n 0, 1) := by decide +kernel
theorem dX3_tickOn_55 : decode cX3_tickOn 55 = .ok (.aload_n 1, 1) := by decide +kernel
theorem dX3_tickOn_56 : decode cX3_tickOn 56 = .ok (.iload_n 2, 1) := by decide +kernel
theorem dX3_tickOn_57 : decode cX3_tickOn 57 = .ok (.invokevirtual 104, 3) := by decide +kernel
theorem dX3_tickOn_60 : decode cX3_tickOn 60 = .ok (.iinc 2 1, 3) := by decide +kernel
theorem dX3_tickOn_63 : decode cX3_tickOn 63 = .ok (.goto (-61), 3) := by decide +kernel
theorem dX3_tickOn_66 : decode cX3_tickOn 66 = .ok (.aload_n 1, 1) := by decide +kernel
theorem dX3_tickOn_67 : decode cX3_tickOn 67 = .ok (.iconst 1, 1) := by decide +kernel
theorem dX3_tickOn_68 : decode cX3_tickOn 68 = .ok (.dup2, 1) := by decide +kernel
theorem dX3_tickOn_69 : decode cX3_tickOn 69 = .ok (.iaload, 1) := by decide +kernel
theorem dX3_tickOn_70 : decode cX3_tickOn 70 = .ok (.iconst 1, 1) := by decide +kernel
theorem dX3_tickOn_71 : decode cX3_tickOn 71 = .ok (.iadd, 1) := by decide +kernel
theorem dX3_tickOn_72 : decode cX3_tickOn 72 = .ok (.iastore, 1) := by decide +kernel
theorem dX3_tickOn_73 : decode cX3_tickOn 73 = .ok (.return_, 1) := by decide +kernel
theorem dX3_runOn_0 : decode cX3_runOn 0 = .ok (.aload_n 1, 1) := by decide +kernel
theorem dX3_runOn_1 : decode cX3_runOn 1 = .ok (.iconst 3, 1) := by decide +kernel
theorem dX3_runOn_2 : decode cX3_runOn 2 = .ok (.iaload, 1) := by decide +kernel
theorem dX3_runOn_3 : decode cX3_runOn 3 = .ok (.aload_n 1, 1) := by decide +kernel
theorem dX3_runOn_4 : decode cX3_runOn 4 = .ok (.iconst 4, 1) := by decide +kernel
theorem dX3_runOn_5 : decode cX3_runOn 5 = .ok (.iaload, 1) := by decide +kernel
theorem dX3_runOn_6 : decode cX3_runOn 6 = .ok (.iadd, 1) := by decide +kernel
theorem dX3_runOn_7 : decode cX3_runOn 7 = .ok (.istore_n 3, 1) := by decide +kernel
theorem dX3_runOn_8 : decode cX3_runOn 8 = .ok (.iconst 0, 1) := by decide +kernel
theorem dX3_runOn_9 : decode cX3_runOn 9 = .ok (.istore 4, 2) := by decide +kernel
theorem dX3_runOn_11 : decode cX3_runOn 11 = .ok (.iload 4, 2) := by decide +kernel
theorem dX3_runOn_13 : decode cX3_runOn 13 = .ok (.iload_n 2, 1) := by decide +kernel
theorem dX3_runOn_14 : decode cX3_runOn 14 = .ok (.if_icmp .ge 14, 3) := by decide +kernel
theorem dX3_runOn_17 : decode cX3_runOn 17 = .ok (.aload_n 0, 1) := by decide +kernel
theorem dX3_runOn_18 : decode cX3_runOn 18 = .ok (.aload_n 1, 1) := by decide +kernel
theorem dX3_runOn_19 : decode cX3_runOn 19 = .ok (.invokevirtual 107, 3) := by decide +kernel
theorem dX3_runOn_22 : decode cX3_runOn 22 = .ok (.iinc 4 1, 3) := by decide +kernel
theorem dX3_runOn_25 : decode cX3_runOn 25 = .ok (.goto (-14), 3) := by decide +kernel
theorem dX3_runOn_28 : decode cX3_runOn 28 = .ok (.aload_n 1, 1) := by decide +kernel
theorem dX3_runOn_29 : decode cX3_runOn 29 = .ok (.iconst 3, 1) := by decide +kernel
theorem dX3_runOn_30 : decode cX3_runOn 30 = .ok (.iaload, 1) := by decide +kernel
theorem dX3_runOn_31 : decode cX3_runOn 31 = .ok (.aload_n 1, 1) := by decide +kernel
theorem dX3_runOn_32 : decode cX3_runOn 32 = .ok (.iconst 4, 1) := by decide +kernel
theorem dX3_runOn_33 : decode cX3_runOn 33 = .ok (.iaload, 1) := by decide +kernel
theorem dX3_runOn_34 : decode cX3_runOn 34 = .ok (.iadd, 1) := by decide +kernel
theorem dX3_runOn_35 : decode cX3_runOn 35 = .ok (.iload_n 3, 1) := by decide +kernel
theorem dX3_runOn_36 : decode cX3_runOn 36 = .ok (.isub, 1) := by decide +kernel
theorem dX3_runOn_37 : decode cX3_runOn 37 = .ok (.ireturn, 1) := by decide +kernel
theorem dX3_laneOn_0 : decode cX3_laneOn 0 = .ok (.aload_n 0, 1) := by decide +kernel
theorem dX3_laneOn_1 : decode cX3_laneOn 1 = .ok (.iconst 0, 1) := by decide +kernel
theorem dX3_laneOn_2 : decode cX3_laneOn 2 = .ok (.iaload, 1) := by decide +kernel
theorem dX3_laneOn_3 : decode cX3_laneOn 3 = .ok (.istore_n 1, 1) := by decide +kernel
theorem dX3_laneOn_4 : decode cX3_laneOn 4 = .ok (.iconst 0, 1) := by decide +kernel
theorem dX3_laneOn_5 : decode cX3_laneOn 5 = .ok (.istore_n 2, 1) := by decide +kernel
theorem dX3_laneOn_6 : decode cX3_laneOn 6 = .ok (.iload_n 2, 1) := by decide +kernel
theorem dX3_laneOn_7 : decode cX3_laneOn 7 = .ok (.bipush 37, 2) := by decide +kernel
theorem dX3_laneOn_9 : decode cX3_laneOn 9 = .ok (.if_icmp .ge 16, 3) := by decide +kernel
theorem dX3_laneOn_12 : decode cX3_laneOn 12 = .ok (.aload_n 0, 1) := by decide +kernel
theorem dX3_laneOn_13 : decode cX3_laneOn 13 = .ok (.iload_n 1, 1) := by decide +kernel
theorem dX3_laneOn_14 : decode cX3_laneOn 14 = .ok (.iload_n 2, 1) := by decide +kernel
theorem dX3_laneOn_15 : decode cX3_laneOn 15 = .ok (.iconst 0, 1) := by decide +kernel
theorem dX3_laneOn_16 : decode cX3_laneOn 16 = .ok (.invokestatic 67, 3) := by decide +kernel
theorem dX3_laneOn_19 : decode cX3_laneOn 19 = .ok (.iinc 2 1, 3) := by decide +kernel
theorem dX3_laneOn_22 : decode cX3_laneOn 22 = .ok (.goto (-16), 3) := by decide +kernel
theorem dX3_laneOn_25 : decode cX3_laneOn 25 = .ok (.aload_n 0, 1) := by decide +kernel
theorem dX3_laneOn_26 : decode cX3_laneOn 26 = .ok (.iload_n 1, 1) := by decide +kernel
theorem dX3_laneOn_27 : decode cX3_laneOn 27 = .ok (.iconst 3, 1) := by decide +kernel
theorem dX3_laneOn_28 : decode cX3_laneOn 28 = .ok (.bipush 48, 2) := by decide +kernel
theorem dX3_laneOn_30 : decode cX3_laneOn 30 = .ok (.invokestatic 67, 3) := by decide +kernel
theorem dX3_laneOn_33 : decode cX3_laneOn 33 = .ok (.aload_n 0, 1) := by decide +kernel
theorem dX3_laneOn_34 : decode cX3_laneOn 34 = .ok (.iconst 0, 1) := by decide +kernel
theorem dX3_laneOn_35 : decode cX3_laneOn 35 = .ok (.dup2, 1) := by decide +kernel
theorem dX3_laneOn_36 : decode cX3_laneOn 36 = .ok (.iaload, 1) := by decide +kernel
theorem dX3_laneOn_37 : decode cX3_laneOn 37 = .ok (.iconst 1, 1) := by decide +kernel
theorem dX3_laneOn_38 : decode cX3_laneOn 38 = .ok (.iadd, 1) := by decide +kernel
theorem dX3_laneOn_39 : decode cX3_laneOn 39 = .ok (.iastore, 1) := by decide +kernel
theorem dX3_laneOn_40 : decode cX3_laneOn 40 = .ok (.iload_n 1, 1) := by decide +kernel
theorem dX3_laneOn_41 : decode cX3_laneOn 41 = .ok (.ireturn, 1) := by decide +kernel
theorem dX3_isLength_0 : decode cX3_isLength 0 = .ok (.iload_n 0, 1) := by decide +kernel
theorem dX3_isLength_1 : decode cX3_isLength 1 = .ok (.i2l, 1) := by decide +kernel
theorem dX3_isLength_2 : decode cX3_isLength 2 = .ok (.ldc2_w 110, 3) := by decide +kernel
theorem dX3_isLength_5 : decode cX3_isLength 5 = .ok (.ldc2_w 112, 3) := by decide +kernel
theorem dX3_isLength_8 : decode cX3_isLength 8 = .ok (.invokestatic 40, 3) := by decide +kernel
theorem dX3_isLength_11 : decode cX3_isLength 11 = .ok (.ireturn, 1) := by decide +kernel
theorem dX3_canArrive_0 : decode cX3_canArrive 0 = .ok (.aload_n 0, 1) := by decide +kernel
theorem dX3_canArrive_1 : decode cX3_canArrive 1 = .ok (.iload_n 1, 1) := by decide +kernel
theorem dX3_canArrive_2 : decode cX3_canArrive 2 = .ok (.invokestatic 44, 3) := by decide +kernel
theorem dX3_canArrive_5 : decode cX3_canArrive 5 = .ok (.ifCond .eq 25, 3) := by decide +kernel
theorem dX3_canArrive_8 : decode cX3_canArrive 8 = .ok (.iload_n 2, 1) := by decide +kernel
theorem dX3_canArrive_9 : decode cX3_canArrive 9 = .ok (.invokestatic 114, 3) := by decide +kernel
theorem dX3_canArrive_12 : decode cX3_canArrive 12 = .ok (.ifCond .eq 18, 3) := by decide +kernel
theorem dX3_canArrive_15 : decode cX3_canArrive 15 = .ok (.aload_n 0, 1) := by decide +kernel
theorem dX3_canArrive_16 : decode cX3_canArrive 16 = .ok (.iload_n 1, 1) := by decide +kernel
theorem dX3_canArrive_17 : decode cX3_canArrive 17 = .ok (.iconst 0, 1) := by decide +kernel
theorem dX3_canArrive_18 : decode cX3_canArrive 18 = .ok (.invokestatic 48, 3) := by decide +kernel
theorem dX3_canArrive_21 : decode cX3_canArrive 21 = .ok (.bipush 6, 2) := by decide +kernel
theorem dX3_canArrive_23 : decode cX3_canArrive 23 = .ok (.if_icmp .ge 7, 3) := by decide +kernel
theorem dX3_canArrive_26 : decode cX3_canArrive 26 = .ok (.iconst 1, 1) := by decide +kernel
theorem dX3_canArrive_27 : decode cX3_canArrive 27 = .ok (.goto 4, 3) := by decide +kernel
theorem dX3_canArrive_30 : decode cX3_canArrive 30 = .ok (.iconst 0, 1) := by decide +kernel
theorem dX3_canArrive_31 : decode cX3_canArrive 31 = .ok (.ireturn, 1) := by decide +kernel
theorem dX3_arriveOn_0 : decode cX3_arriveOn 0 = .ok (.aload_n 0, 1) := by decide +kernel
theorem dX3_arriveOn_1 : decode cX3_arriveOn 1 = .ok (.iload_n 1, 1) := by decide +kernel
theorem dX3_arriveOn_2 : decode cX3_arriveOn 2 = .ok (.iconst 0, 1) := by decide +kernel
theorem dX3_arriveOn_3 : decode cX3_arriveOn 3 = .ok (.invokestatic 48, 3) := by decide +kernel
theorem dX3_arriveOn_6 : decode cX3_arriveOn 6 = .ok (.istore 5, 2) := by decide +kernel
theorem dX3_arriveOn_8 : decode cX3_arriveOn 8 = .ok (.iload 5, 2) := by decide +kernel
theorem dX3_arriveOn_10 : decode cX3_arriveOn 10 = .ok (.ifCond .ne 7, 3) := by decide +kernel
theorem dX3_arriveOn_13 : decode cX3_arriveOn 13 = .ok (.iconst (-1), 1) := by decide +kernel
theorem dX3_arriveOn_14 : decode cX3_arriveOn 14 = .ok (.goto 14, 3) := by decide +kernel
theorem dX3_arriveOn_17 : decode cX3_arriveOn 17 = .ok (.aload_n 0, 1) := by decide +kernel
theorem dX3_arriveOn_18 : decode cX3_arriveOn 18 = .ok (.iload_n 1, 1) := by decide +kernel
theorem dX3_arriveOn_19 : decode cX3_arriveOn 19 = .ok (.iload 5, 2) := by decide +kernel
theorem dX3_arriveOn_21 : decode cX3_arriveOn 21 = .ok (.iconst 1, 1) := by decide +kernel
theorem dX3_arriveOn_22 : decode cX3_arriveOn 22 = .ok (.isub, 1) := by decide +kernel
theorem dX3_arriveOn_23 : decode cX3_arriveOn 23 = .ok (.invokestatic 60, 3) := by decide +kernel
theorem dX3_arriveOn_26 : decode cX3_arriveOn 26 = .ok (.iconst 2, 1) := by decide +kernel
theorem dX3_arriveOn_27 : decode cX3_arriveOn 27 = .ok (.isub, 1) := by decide +kernel
theorem dX3_arriveOn_28 : decode cX3_arriveOn 28 = .ok (.istore 6, 2) := by decide +kernel
theorem dX3_arriveOn_30 : decode cX3_arriveOn 30 = .ok (.aload_n 0, 1) := by decide +kernel
theorem dX3_arriveOn_31 : decode cX3_arriveOn 31 = .ok (.iload_n 1, 1) := by decide +kernel
theorem dX3_arriveOn_32 : decode cX3_arriveOn 32 = .ok (.iload 5, 2) := by decide +kernel
theorem dX3_arriveOn_34 : decode cX3_arriveOn 34 = .ok (.iconst 0, 1) := by decide +kernel
theorem dX3_arriveOn_35 : decode cX3_arriveOn 35 = .ok (.invokestatic 52, 3) := by decide +kernel
theorem dX3_arriveOn_38 : decode cX3_arriveOn 38 = .ok (.iload_n 2, 1) := by decide +kernel
theorem dX3_arriveOn_39 : decode cX3_arriveOn 39 = .ok (.invokestatic 67, 3) := by decide +kernel
theorem dX3_arriveOn_42 : decode cX3_arriveOn 42 = .ok (.aload_n 0, 1) := by decide +kernel
theorem dX3_arriveOn_43 : decode cX3_arriveOn 43 = .ok (.iload_n 1, 1) := by decide +kernel
theorem dX3_arriveOn_44 : decode cX3_arriveOn 44 = .ok (.iload 5, 2) := by decide +kernel
theorem dX3_arriveOn_46 : decode cX3_arriveOn 46 = .ok (.iconst 1, 1) := by decide +kernel
theorem dX3_arriveOn_47 : decode cX3_arriveOn 47 = .ok (.invokestatic 52, 3) := by decide +kernel
theorem dX3_arriveOn_50 : decode cX3_arriveOn 50 = .ok (.iload 6, 2) := by decide +kernel
theorem dX3_arriveOn_52 : decode cX3_arriveOn 52 = .ok (.iconst (-1), 1) := by decide +kernel
theorem dX3_arriveOn_53 : decode cX3_arriveOn 53 = .ok (.if_icmp .ge 8, 3) := by decide +kernel
theorem dX3_arriveOn_56 : decode cX3_arriveOn 56 = .ok (.iload 6, 2) := by decide +kernel
theorem dX3_arriveOn_58 : decode cX3_arriveOn 58 = .ok (.goto 4, 3) := by decide +kernel
theorem dX3_arriveOn_61 : decode cX3_arriveOn 61 = .ok (.iconst (-1), 1) := by decide +kernel
theorem dX3_arriveOn_62 : decode cX3_arriveOn 62 = .ok (.invokestatic 67, 3) := by decide +kernel
theorem dX3_arriveOn_65 : decode cX3_arriveOn 65 = .ok (.aload_n 0, 1) := by decide +kernel
theorem dX3_arriveOn_66 : decode cX3_arriveOn 66 = .ok (.iload_n 1, 1) := by decide +kernel
theorem dX3_arriveOn_67 : decode cX3_arriveOn 67 = .ok (.iload 5, 2) := by decide +kernel
theorem dX3_arriveOn_69 : decode cX3_arriveOn 69 = .ok (.iconst 2, 1) := by decide +kernel
theorem dX3_arriveOn_70 : decode cX3_arriveOn 70 = .ok (.invokestatic 52, 3) := by decide +kernel
theorem dX3_arriveOn_73 : decode cX3_arriveOn 73 = .ok (.iload_n 3, 1) := by decide +kernel
theorem dX3_arriveOn_74 : decode cX3_arriveOn 74 = .ok (.ifCond .eq 7, 3) := by decide +kernel
theorem dX3_arriveOn_77 : decode cX3_arriveOn 77 = .ok (.iconst 1, 1) := by decide +kernel
theorem dX3_arriveOn_78 : decode cX3_arriveOn 78 = .ok (.goto 4, 3) := by decide +kernel
theorem dX3_arriveOn_81 : decode cX3_arriveOn 81 = .ok (.iconst 0, 1) := by decide +kernel
theorem dX3_arriveOn_82 : decode cX3_arriveOn 82 = .ok (.invokestatic 67, 3) := by decide +kernel
theorem dX3_arriveOn_85 : decode cX3_arriveOn 85 = .ok (.aload_n 0, 1) := by decide +kernel
theorem dX3_arriveOn_86 : decode cX3_arriveOn 86 = .ok (.iload_n 1, 1) := by decide +kernel
theorem dX3_arriveOn_87 : decode cX3_arriveOn 87 = .ok (.iload 5, 2) := by decide +kernel
theorem dX3_arriveOn_89 : decode cX3_arriveOn 89 = .ok (.iconst 3, 1) := by decide +kernel
theorem dX3_arriveOn_90 : decode cX3_arriveOn 90 = .ok (.invokestatic 52, 3) := by decide +kernel
theorem dX3_arriveOn_93 : decode cX3_arriveOn 93 = .ok (.iload 4, 2) := by decide +kernel
theorem dX3_arriveOn_95 : decode cX3_arriveOn 95 = .ok (.ifCond .eq 7, 3) := by decide +kernel
theorem dX3_arriveOn_98 : decode cX3_arriveOn 98 = .ok (.iconst 1, 1) := by decide +kernel
theorem dX3_arriveOn_99 : decode cX3_arriveOn 99 = .ok (.goto 4, 3) := by decide +kernel
theorem dX3_arriveOn_102 : decode cX3_arriveOn 102 = .ok (.iconst 0, 1) := by decide +kernel
theorem dX3_arriveOn_103 : decode cX3_arriveOn 103 = .ok (.invokestatic 67, 3) := by decide +kernel
theorem dX3_arriveOn_106 : decode cX3_arriveOn 106 = .ok (.aload_n 0, 1) := by decide +kernel
theorem dX3_arriveOn_107 : decode cX3_arriveOn 107 = .ok (.iload_n 1, 1) := by decide +kernel
theorem dX3_arriveOn_108 : decode cX3_arriveOn 108 = .ok (.iload 5, 2) := by decide +kernel
theorem dX3_arriveOn_110 : decode cX3_arriveOn 110 = .ok (.iconst 4, 1) := by decide +kernel
theorem dX3_arriveOn_111 : decode cX3_arriveOn 111 = .ok (.invokestatic 52, 3) := by decide +kernel
theorem dX3_arriveOn_114 : decode cX3_arriveOn 114 = .ok (.iconst 0, 1) := by decide +kernel
theorem dX3_arriveOn_115 : decode cX3_arriveOn 115 = .ok (.invokestatic 67, 3) := by decide +kernel
theorem dX3_arriveOn_118 : decode cX3_arriveOn 118 = .ok (.aload_n 0, 1) := by decide +kernel
theorem dX3_arriveOn_119 : decode cX3_arriveOn 119 = .ok (.iload_n 1, 1) := by decide +kernel
theorem dX3_arriveOn_120 : decode cX3_arriveOn 120 = .ok (.iconst 0, 1) := by decide +kernel
theorem dX3_arriveOn_121 : decode cX3_arriveOn 121 = .ok (.iload 5, 2) := by decide +kernel
theorem dX3_arriveOn_123 : decode cX3_arriveOn 123 = .ok (.iconst 1, 1) := by decide +kernel
theorem dX3_arriveOn_124 : decode cX3_arriveOn 124 = .ok (.iadd, 1) := by decide +kernel
theorem dX3_arriveOn_125 : decode cX3_arriveOn 125 = .ok (.invokestatic 67, 3) := by decide +kernel
theorem dX3_arriveOn_128 : decode cX3_arriveOn 128 = .ok (.iload 5, 2) := by decide +kernel
theorem dX3_arriveOn_130 : decode cX3_arriveOn 130 = .ok (.iconst 1, 1) := by decide +kernel
theorem dX3_arriveOn_131 : decode cX3_arriveOn 131 = .ok (.iadd, 1) := by decide +kernel
theorem dX3_arriveOn_132 : decode cX3_arriveOn 132 = .ok (.ireturn, 1) := by decide +kernel
theorem dX3_sum_0 : decode cX3_sum 0 = .ok (.iconst 0, 1) := by decide +kernel
theorem dX3_sum_1 : decode cX3_sum 1 = .ok (.istore_n 2, 1) := by decide +kernel
theorem dX3_sum_2 : decode cX3_sum 2 = .ok (.iconst 0, 1) := by decide +kernel
theorem dX3_sum_3 : decode cX3_sum 3 = .ok (.istore_n 3, 1) := by decide +kernel
theorem dX3_sum_4 : decode cX3_sum 4 = .ok (.iload_n 3, 1) := by decide +kernel
theorem dX3_sum_5 : decode cX3_sum 5 = .ok (.aload_n 0, 1) := by decide +kernel
theorem dX3_sum_6 : decode cX3_sum 6 = .ok (.iconst 0, 1) := by decide +kernel
theorem dX3_sum_7 : decode cX3_sum 7 = .ok (.iaload, 1) := by decide +kernel
theorem dX3_sum_8 : decode cX3_sum 8 = .ok (.if_icmp .ge 18, 3) := by decide +kernel
theorem dX3_sum_11 : decode cX3_sum 11 = .ok (.iload_n 2, 1) := by decide +kernel
theorem dX3_sum_12 : decode cX3_sum 12 = .ok (.aload_n 0, 1) := by decide +kernel
theorem dX3_sum_13 : decode cX3_sum 13 = .ok (.iload_n 3, 1) := by decide +kernel
theorem dX3_sum_14 : decode cX3_sum 14 = .ok (.iload_n 1, 1) := by decide +kernel
theorem dX3_sum_15 : decode cX3_sum 15 = .ok (.invokestatic 48, 3) := by decide +kernel
theorem dX3_sum_18 : decode cX3_sum 18 = .ok (.iadd, 1) := by decide +kernel
theorem dX3_sum_19 : decode cX3_sum 19 = .ok (.istore_n 2, 1) := by decide +kernel
theorem dX3_sum_20 : decode cX3_sum 20 = .ok (.iinc 3 1, 3) := by decide +kernel
theorem dX3_sum_23 : decode cX3_sum 23 = .ok (.goto (-19), 3) := by decide +kernel
theorem dX3_sum_26 : decode cX3_sum 26 = .ok (.iload_n 2, 1) := by decide +kernel
theorem dX3_sum_27 : decode cX3_sum 27 = .ok (.ireturn, 1) := by decide +kernel
theorem dX3_loopOn_0 : decode cX3_loopOn 0 = .ok (.aload_n 0, 1) := by decide +kernel
theorem dX3_loopOn_1 : decode cX3_loopOn 1 = .ok (.iload_n 1, 1) := by decide +kernel
theorem dX3_loopOn_2 : decode cX3_loopOn 2 = .ok (.iconst 4, 1) := by decide +kernel
theorem dX3_loopOn_3 : decode cX3_loopOn 3 = .ok (.iload_n 2, 1) := by decide +kernel
theorem dX3_loopOn_4 : decode cX3_loopOn 4 = .ok (.ifCond .eq 7, 3) := by decide +kernel
theorem dX3_loopOn_7 : decode cX3_loopOn 7 = .ok (.iconst 1, 1) := by decide +kernel
theorem dX3_loopOn_8 : decode cX3_loopOn 8 = .ok (.goto 4, 3) := by decide +kernel
theorem dX3_loopOn_11 : decode cX3_loopOn 11 = .ok (.iconst 0, 1) := by decide +kernel
theorem dX3_loopOn_12 : decode cX3_loopOn 12 = .ok (.invokestatic 67, 3) := by decide +kernel
theorem dX3_loopOn_15 : decode cX3_loopOn 15 = .ok (.aload_n 0, 1) := by decide +kernel
theorem dX3_loopOn_16 : decode cX3_loopOn 16 = .ok (.iconst 4, 1) := by decide +kernel
theorem dX3_loopOn_17 : decode cX3_loopOn 17 = .ok (.invokestatic 118, 3) := by decide +kernel
theorem dX3_loopOn_20 : decode cX3_loopOn 20 = .ok (.ireturn, 1) := by decide +kernel
theorem dX3_canMend_0 : decode cX3_canMend 0 = .ok (.aload_n 0, 1) := by decide +kernel
theorem dX3_canMend_1 : decode cX3_canMend 1 = .ok (.iload_n 1, 1) := by decide +kernel
theorem dX3_canMend_2 : decode cX3_canMend 2 = .ok (.invokestatic 44, 3) := by decide +kernel
theorem dX3_canMend_5 : decode cX3_canMend 5 = .ok (.ifCond .eq 25, 3) := by decide +kernel
theorem dX3_canMend_8 : decode cX3_canMend 8 = .ok (.aload_n 0, 1) := by decide +kernel
theorem dX3_canMend_9 : decode cX3_canMend 9 = .ok (.iload_n 1, 1) := by decide +kernel
theorem dX3_canMend_10 : decode cX3_canMend 10 = .ok (.iconst 5, 1) := by decide +kernel
theorem dX3_canMend_11 : decode cX3_canMend 11 = .ok (.invokestatic 48, 3) := by decide +kernel
theorem dX3_canMend_14 : decode cX3_canMend 14 = .ok (.iconst 1, 1) := by decide +kernel
theorem dX3_canMend_15 : decode cX3_canMend 15 = .ok (.if_icmp .ne 15, 3) := by decide +kernel
theorem dX3_canMend_18 : decode cX3_canMend 18 = .ok (.aload_n 0, 1) := by decide +kernel
theorem dX3_canMend_19 : decode cX3_canMend 19 = .ok (.iload_n 1, 1) := by decide +kernel
theorem dX3_canMend_20 : decode cX3_canMend 20 = .ok (.invokestatic 86, 3) := by decide +kernel
theorem dX3_canMend_23 : decode cX3_canMend 23 = .ok (.ifCond .ne 7, 3) := by decide +kernel
theorem dX3_canMend_26 : decode cX3_canMend 26 = .ok (.iconst 1, 1) := by decide +kernel
theorem dX3_canMend_27 : decode cX3_canMend 27 = .ok (.goto 4, 3) := by decide +kernel
theorem dX3_canMend_30 : decode cX3_canMend 30 = .ok (.iconst 0, 1) := by decide +kernel
theorem dX3_canMend_31 : decode cX3_canMend 31 = .ok (.ireturn, 1) := by decide +kernel
theorem dX3_mendOn_0 : decode cX3_mendOn 0 = .ok (.aload_n 0, 1) := by decide +kernel
theorem dX3_mendOn_1 : decode cX3_mendOn 1 = .ok (.iload_n 1, 1) := by decide +kernel
theorem dX3_mendOn_2 : decode cX3_mendOn 2 = .ok (.iconst 5, 1) := by decide +kernel
theorem dX3_mendOn_3 : decode cX3_mendOn 3 = .ok (.iconst 0, 1) := by decide +kernel
theorem dX3_mendOn_4 : decode cX3_mendOn 4 = .ok (.invokestatic 67, 3) := by decide +kernel
theorem dX3_mendOn_7 : decode cX3_mendOn 7 = .ok (.aload_n 0, 1) := by decide +kernel
theorem dX3_mendOn_8 : decode cX3_mendOn 8 = .ok (.iload_n 1, 1) := by decide +kernel
theorem dX3_mendOn_9 : decode cX3_mendOn 9 = .ok (.iconst 1, 1) := by decide +kernel
theorem dX3_mendOn_10 : decode cX3_mendOn 10 = .ok (.invokestatic 48, 3) := by decide +kernel
theorem dX3_mendOn_13 : decode cX3_mendOn 13 = .ok (.ireturn, 1) := by decide +kernel
theorem dX3_isSetting_0 : decode cX3_isSetting 0 = .ok (.iload_n 0, 1) := by decide +kernel
theorem dX3_isSetting_1 : decode cX3_isSetting 1 = .ok (.ifCond .ne 15, 3) := by decide +kernel
theorem dX3_isSetting_4 : decode cX3_isSetting 4 = .ok (.iload_n 1, 1) := by decide +kernel
theorem dX3_isSetting_5 : decode cX3_isSetting 5 = .ok (.i2l, 1) := by decide +kernel
theorem dX3_isSetting_6 : decode cX3_isSetting 6 = .ok (.lconst 1, 1) := by decide +kernel
theorem dX3_isSetting_7 : decode cX3_isSetting 7 = .ok (.ldc2_w 121, 3) := by decide +kernel
theorem dX3_isSetting_10 : decode cX3_isSetting 10 = .ok (.invokestatic 40, 3) := by decide +kernel
theorem dX3_isSetting_13 : decode cX3_isSetting 13 = .ok (.ifCond .ne 37, 3) := by decide +kernel
theorem dX3_isSetting_16 : decode cX3_isSetting 16 = .ok (.iload_n 0, 1) := by decide +kernel
theorem dX3_isSetting_17 : decode cX3_isSetting 17 = .ok (.iconst 1, 1) := by decide +kernel
theorem dX3_isSetting_18 : decode cX3_isSetting 18 = .ok (.if_icmp .ne 15, 3) := by decide +kernel
theorem dX3_isSetting_21 : decode cX3_isSetting 21 = .ok (.iload_n 1, 1) := by decide +kernel
theorem dX3_isSetting_22 : decode cX3_isSetting 22 = .ok (.i2l, 1) := by decide +kernel
theorem dX3_isSetting_23 : decode cX3_isSetting 23 = .ok (.lconst 1, 1) := by decide +kernel
theorem dX3_isSetting_24 : decode cX3_isSetting 24 = .ok (.ldc2_w 123, 3) := by decide +kernel
theorem dX3_isSetting_27 : decode cX3_isSetting 27 = .ok (.invokestatic 40, 3) := by decide +kernel
theorem dX3_isSetting_30 : decode cX3_isSetting 30 = .ok (.ifCond .ne 20, 3) := by decide +kernel
theorem dX3_isSetting_33 : decode cX3_isSetting 33 = .ok (.iload_n 0, 1) := by decide +kernel
theorem dX3_isSetting_34 : decode cX3_isSetting 34 = .ok (.iconst 2, 1) := by decide +kernel
theorem dX3_isSetting_35 : decode cX3_isSetting 35 = .ok (.if_icmp .ne 19, 3) := by decide +kernel
theorem dX3_isSetting_38 : decode cX3_isSetting 38 = .ok (.iload_n 1, 1) := by decide +kernel
theorem dX3_isSetting_39 : decode cX3_isSetting 39 = .ok (.i2l, 1) := by decide +kernel
theorem dX3_isSetting_40 : decode cX3_isSetting 40 = .ok (.lconst 0, 1) := by decide +kernel
theorem dX3_isSetting_41 : decode cX3_isSetting 41 = .ok (.ldc2_w 121, 3) := by decide +kernel
theorem dX3_isSetting_44 : decode cX3_isSetting 44 = .ok (.invokestatic 40, 3) := by decide +kernel
theorem dX3_isSetting_47 : decode cX3_isSetting 47 = .ok (.ifCond .eq 7, 3) := by decide +kernel
theorem dX3_isSetting_50 : decode cX3_isSetting 50 = .ok (.iconst 1, 1) := by decide +kernel
theorem dX3_isSetting_51 : decode cX3_isSetting 51 = .ok (.goto 4, 3) := by decide +kernel
theorem dX3_isSetting_54 : decode cX3_isSetting 54 = .ok (.iconst 0, 1) := by decide +kernel
theorem dX3_isSetting_55 : decode cX3_isSetting 55 = .ok (.ireturn, 1) := by decide +kernel
theorem dX3_append_0 : decode cX3_append 0 = .ok (.aload_n 0, 1) := by decide +kernel
theorem dX3_append_1 : decode cX3_append 1 = .ok (.iload_n 1, 1) := by decide +kernel
theorem dX3_append_2 : decode cX3_append 2 = .ok (.i2l, 1) := by decide +kernel
theorem dX3_append_3 : decode cX3_append 3 = .ok (.lconst 0, 1) := by decide +kernel
theorem dX3_append_4 : decode cX3_append 4 = .ok (.ldc2_w 125, 3) := by decide +kernel
theorem dX3_append_7 : decode cX3_append 7 = .ok (.invokestatic 40, 3) := by decide +kernel
theorem dX3_append_10 : decode cX3_append 10 = .ok (.ifCond .ne 7, 3) := by decide +kernel
theorem dX3_append_13 : decode cX3_append 13 = .ok (.iconst 1, 1) := by decide +kernel
theorem dX3_append_14 : decode cX3_append 14 = .ok (.goto 17, 3) := by decide +kernel
theorem dX3_append_17 : decode cX3_append 17 = .ok (.aload_n 0, 1) := by decide +kernel
theorem dX3_append_18 : decode cX3_append 18 = .ok (.getfield 127, 3) := by decide +kernel
theorem dX3_append_21 : decode cX3_append 21 = .ok (.bipush 120, 2) := by decide +kernel
theorem dX3_append_23 : decode cX3_append 23 = .ok (.if_icmp .ne 7, 3) := by decide +kernel
theorem dX3_append_26 : decode cX3_append 26 = .ok (.iconst 2, 1) := by decide +kernel
theorem dX3_append_27 : decode cX3_append 27 = .ok (.goto 4, 3) := by decide +kernel
theorem dX3_append_30 : decode cX3_append 30 = .ok (.iconst 0, 1) := by decide +kernel
theorem dX3_append_31 : decode cX3_append 31 = .ok (.invokevirtual 130, 3) := by decide +kernel
theorem dX3_append_34 : decode cX3_append 34 = .ok (.ifCond .eq 5, 3) := by decide +kernel
theorem dX3_append_37 : decode cX3_append 37 = .ok (.iconst 0, 1) := by decide +kernel
theorem dX3_append_38 : decode cX3_append 38 = .ok (.ireturn, 1) := by decide +kernel
theorem dX3_append_39 : decode cX3_append 39 = .ok (.aload_n 0, 1) := by decide +kernel
theorem dX3_append_40 : decode cX3_append 40 = .ok (.getfield 7, 3) := by decide +kernel
theorem dX3_append_43 : decode cX3_append 43 = .ok (.aload_n 0, 1) := by decide +kernel
theorem dX3_append_44 : decode cX3_append 44 = .ok (.getfield 127, 3) := by decide +kernel
theorem dX3_append_47 : decode cX3_append 47 = .ok (.iload_n 1, 1) := by decide +kernel
theorem dX3_append_48 : decode cX3_append 48 = .ok (.iastore, 1) := by decide +kernel
theorem dX3_append_49 : decode cX3_append 49 = .ok (.aload_n 0, 1) := by decide +kernel
theorem dX3_append_50 : decode cX3_append 50 = .ok (.dup, 1) := by decide +kernel
theorem dX3_append_51 : decode cX3_append 51 = .ok (.getfield 127, 3) := by decide +kernel
theorem dX3_append_54 : decode cX3_append 54 = .ok (.iconst 1, 1) := by decide +kernel
theorem dX3_append_55 : decode cX3_append 55 = .ok (.iadd, 1) := by decide +kernel
theorem dX3_append_56 : decode cX3_append 56 = .ok (.putfield 127, 3) := by decide +kernel
theorem dX3_append_59 : decode cX3_append 59 = .ok (.aload_n 0, 1) := by decide +kernel
theorem dX3_append_60 : decode cX3_append 60 = .ok (.getfield 127, 3) := by decide +kernel
theorem dX3_append_63 : decode cX3_append 63 = .ok (.ireturn, 1) := by decide +kernel
theorem dX3_clearText_0 : decode cX3_clearText 0 = .ok (.aload_n 0, 1) := by decide +kernel
theorem dX3_clearText_1 : decode cX3_clearText 1 = .ok (.iconst 0, 1) := by decide +kernel
theorem dX3_clearText_2 : decode cX3_clearText 2 = .ok (.putfield 36, 3) := by decide +kernel
theorem dX3_clearText_5 : decode cX3_clearText 5 = .ok (.aload_n 0, 1) := by decide +kernel
theorem dX3_clearText_6 : decode cX3_clearText 6 = .ok (.getfield 127, 3) := by decide +kernel
theorem dX3_clearText_9 : decode cX3_clearText 9 = .ok (.istore_n 1, 1) := by decide +kernel
theorem dX3_clearText_10 : decode cX3_clearText 10 = .ok (.aload_n 0, 1) := by decide +kernel
theorem dX3_clearText_11 : decode cX3_clearText 11 = .ok (.iconst 0, 1) := by decide +kernel
theorem dX3_clearText_12 : decode cX3_clearText 12 = .ok (.putfield 127, 3) := by decide +kernel
theorem dX3_clearText_15 : decode cX3_clearText 15 = .ok (.iload_n 1, 1) := by decide +kernel
theorem dX3_clearText_16 : decode cX3_clearText 16 = .ok (.ireturn, 1) := by decide +kernel
theorem dX3_at_0 : decode cX3_at 0 = .ok (.iload_n 1, 1) := by decide +kernel
theorem dX3_at_1 : decode cX3_at 1 = .ok (.aload_n 0, 1) := by decide +kernel
theorem dX3_at_2 : decode cX3_at 2 = .ok (.getfield 127, 3) := by decide +kernel
theorem dX3_at_5 : decode cX3_at 5 = .ok (.if_icmp .ge 12, 3) := by decide +kernel
theorem dX3_at_8 : decode cX3_at 8 = .ok (.aload_n 0, 1) := by decide +kernel
theorem dX3_at_9 : decode cX3_at 9 = .ok (.getfield 7, 3) := by decide +kernel
theorem dX3_at_12 : decode cX3_at 12 = .ok (.iload_n 1, 1) := by decide +kernel
theorem dX3_at_13 : decode cX3_at 13 = .ok (.iaload, 1) := by decide +kernel
theorem dX3_at_14 : decode cX3_at 14 = .ok (.goto 4, 3) := by decide +kernel
theorem dX3_at_17 : decode cX3_at 17 = .ok (.iconst (-1), 1) := by decide +kernel
theorem dX3_at_18 : decode cX3_at 18 = .ok (.ireturn, 1) := by decide +kernel
theorem dX3_figures_0 : decode cX3_figures 0 = .ok (.iconst 0, 1) := by decide +kernel
theorem dX3_figures_1 : decode cX3_figures 1 = .ok (.istore 5, 2) := by decide +kernel
theorem dX3_figures_3 : decode cX3_figures 3 = .ok (.iload_n 2, 1) := by decide +kernel
theorem dX3_figures_4 : decode cX3_figures 4 = .ok (.iconst 2, 1) := by decide +kernel
theorem dX3_figures_5 : decode cX3_figures 5 = .ok (.if_icmp .ne 8, 3) := by decide +kernel
theorem dX3_figures_8 : decode cX3_figures 8 = .ok (.bipush 10, 2) := by decide +kernel
theorem dX3_figures_10 : decode cX3_figures 10 = .ok (.goto 4, 3) := by decide +kernel
theorem dX3_figures_13 : decode cX3_figures 13 = .ok (.iconst 1, 1) := by decide +kernel
theorem dX3_figures_14 : decode cX3_figures 14 = .ok (.istore 6, 2) := by decide +kernel
theorem dX3_figures_16 : decode cX3_figures 16 = .ok (.iload 6, 2) := by decide +kernel
theorem dX3_figures_18 : decode cX3_figures 18 = .ok (.ifCond .le 88, 3) := by decide +kernel
theorem dX3_figures_21 : decode cX3_figures 21 = .ok (.iload_n 1, 1) := by decide +kernel
theorem dX3_figures_22 : decode cX3_figures 22 = .ok (.iconst (-1), 1) := by decide +kernel
theorem dX3_figures_23 : decode cX3_figures 23 = .ok (.if_icmp .eq 83, 3) := by decide +kernel
theorem dX3_figures_26 : decode cX3_figures 26 = .ok (.aload_n 0, 1) := by decide +kernel
theorem dX3_figures_27 : decode cX3_figures 27 = .ok (.aload_n 0, 1) := by decide +kernel
theorem dX3_figures_28 : decode cX3_figures 28 = .ok (.getfield 133, 3) := by decide +kernel
theorem dX3_figures_31 : decode cX3_figures 31 = .ok (.invokevirtual 136, 3) := by decide +kernel
theorem dX3_figures_34 : decode cX3_figures 34 = .ok (.bipush 48, 2) := by decide +kernel
theorem dX3_figures_36 : decode cX3_figures 36 = .ok (.isub, 1) := by decide +kernel
theorem dX3_figures_37 : decode cX3_figures 37 = .ok (.istore 7, 2) := by decide +kernel
theorem dX3_figures_39 : decode cX3_figures 39 = .ok (.iload 5, 2) := by decide +kernel
theorem dX3_figures_41 : decode cX3_figures 41 = .ok (.iload 7, 2) := by decide +kernel
theorem dX3_figures_43 : decode cX3_figures 43 = .ok (.iload 6, 2) := by decide +kernel
theorem dX3_figures_45 : decode cX3_figures 45 = .ok (.imul, 1) := by decide +kernel
theorem dX3_figures_46 : decode cX3_figures 46 = .ok (.iadd, 1) := by decide +kernel
theorem dX3_figures_47 : decode cX3_figures 47 = .ok (.istore 8, 2) := by decide +kernel
theorem dX3_figures_49 : decode cX3_figures 49 = .ok (.iload 7, 2) := by decide +kernel
theorem dX3_figures_51 : decode cX3_figures 51 = .ok (.i2l, 1) := by decide +kernel
theorem dX3_figures_52 : decode cX3_figures 52 = .ok (.lconst 0, 1) := by decide +kernel
theorem dX3_figures_53 : decode cX3_figures 53 = .ok (.ldc2_w 140, 3) := by decide +kernel
theorem dX3_figures_56 : decode cX3_figures 56 = .ok (.invokestatic 40, 3) := by decide +kernel
theorem dX3_figures_59 : decode cX3_figures 59 = .ok (.ifCond .eq 21, 3) := by decide +kernel
theorem dX3_figures_62 : decode cX3_figures 62 = .ok (.iload 8, 2) := by decide +kernel
theorem dX3_figures_64 : decode cX3_figures 64 = .ok (.iload 4, 2) := by decide +kernel
theorem dX3_figures_66 : decode cX3_figures 66 = .ok (.if_icmp .gt 14, 3) := by decide +kernel
theorem dX3_figures_69 : decode cX3_figures 69 = .ok (.iload 8, 2) := by decide +kernel
theorem dX3_figures_71 : decode cX3_figures 71 = .ok (.iload 6, 2) := by decide +kernel
theorem dX3_figures_73 : decode cX3_figures 73 = .ok (.iadd, 1) := by decide +kernel
theorem dX3_figures_74 : decode cX3_figures 74 = .ok (.iconst 1, 1) := by decide +kernel
theorem dX3_figures_75 : decode cX3_figures 75 = .ok (.isub, 1) := by decide +kernel
theorem dX3_figures_76 : decode cX3_figures 76 = .ok (.iload_n 3, 1) := by decide +kernel
theorem dX3_figures_77 : decode cX3_figures 77 = .ok (.if_icmp .ge 5, 3) := by decide +kernel
theorem dX3_figures_80 : decode cX3_figures 80 = .ok (.iconst (-1), 1) := by decide +kernel
theorem dX3_figures_81 : decode cX3_figures 81 = .ok (.ireturn, 1) := by decide +kernel
theorem dX3_figures_82 : decode cX3_figures 82 = .ok (.iload 8, 2) := by decide +kernel
theorem dX3_figures_84 : decode cX3_figures 84 = .ok (.istore 5, 2) := by decide +kernel
theorem dX3_figures_86 : decode cX3_figures 86 = .ok (.aload_n 0, 1) := by decide +kernel
theorem dX3_figures_87 : decode cX3_figures 87 = .ok (.dup, 1) := by decide +kernel
theorem dX3_figures_88 : decode cX3_figures 88 = .ok (.getfield 133, 3) := by decide +kernel
theorem dX3_figures_91 : decode cX3_figures 91 = .ok (.iconst 1, 1) := by decide +kernel
theorem dX3_figures_92 : decode cX3_figures 92 = .ok (.iadd, 1) := by decide +kernel
theorem dX3_figures_93 : decode cX3_figures 93 = .ok (.putfield 133, 3) := by decide +kernel
theorem dX3_figures_96 : decode cX3_figures 96 = .ok (.iload 6, 2) := by decide +kernel
theorem dX3_figures_98 : decode cX3_figures 98 = .ok (.bipush 10, 2) := by decide +kernel
theorem dX3_figures_100 : decode cX3_figures 100 = .ok (.idiv, 1) := by decide +kernel
theorem dX3_figures_101 : decode cX3_figures 101 = .ok (.istore 6, 2) := by decide +kernel
theorem dX3_figures_103 : decode cX3_figures 103 = .ok (.goto (-87), 3) := by decide +kernel
theorem dX3_figures_106 : decode cX3_figures 106 = .ok (.iload_n 1, 1) := by decide +kernel
theorem dX3_figures_107 : decode cX3_figures 107 = .ok (.iconst (-1), 1) := by decide +kernel
theorem dX3_figures_108 : decode cX3_figures 108 = .ok (.if_icmp .ne 7, 3) := by decide +kernel
theorem dX3_figures_111 : decode cX3_figures 111 = .ok (.iconst (-1), 1) := by decide +kernel
theorem dX3_figures_112 : decode cX3_figures 112 = .ok (.goto 5, 3) := by decide +kernel
theorem dX3_figures_115 : decode cX3_figures 115 = .ok (.iload 5, 2) := by decide +kernel
theorem dX3_figures_117 : decode cX3_figures 117 = .ok (.ireturn, 1) := by decide +kernel
theorem dX3_sign_0 : decode cX3_sign 0 = .ok (.aload_n 0, 1) := by decide +kernel
theorem dX3_sign_1 : decode cX3_sign 1 = .ok (.aload_n 0, 1) := by decide +kernel
theorem dX3_sign_2 : decode cX3_sign 2 = .ok (.getfield 133, 3) := by decide +kernel
theorem dX3_sign_5 : decode cX3_sign 5 = .ok (.invokevirtual 136, 3) := by decide +kernel
theorem dX3_sign_8 : decode cX3_sign 8 = .ok (.iload_n 1, 1) := by decide +kernel
theorem dX3_sign_9 : decode cX3_sign 9 = .ok (.if_icmp .ne 7, 3) := by decide +kernel
theorem dX3_sign_12 : decode cX3_sign 12 = .ok (.iconst 1, 1) := by decide +kernel
theorem dX3_sign_13 : decode cX3_sign 13 = .ok (.goto 4, 3) := by decide +kernel
theorem dX3_sign_16 : decode cX3_sign 16 = .ok (.iconst 0, 1) := by decide +kernel
theorem dX3_sign_17 : decode cX3_sign 17 = .ok (.istore_n 2, 1) := by decide +kernel
theorem dX3_sign_18 : decode cX3_sign 18 = .ok (.aload_n 0, 1) := by decide +kernel
theorem dX3_sign_19 : decode cX3_sign 19 = .ok (.dup, 1) := by decide +kernel
theorem dX3_sign_20 : decode cX3_sign 20 = .ok (.getfield 133, 3) := by decide +kernel
theorem dX3_sign_23 : decode cX3_sign 23 = .ok (.iload_n 2, 1) := by decide +kernel
theorem dX3_sign_24 : decode cX3_sign 24 = .ok (.ifCond .eq 7, 3) := by decide +kernel
theorem dX3_sign_27 : decode cX3_sign 27 = .ok (.iconst 1, 1) := by decide +kernel
theorem dX3_sign_28 : decode cX3_sign 28 = .ok (.goto 4, 3) := by decide +kernel
theorem dX3_sign_31 : decode cX3_sign 31 = .ok (.iconst 0, 1) := by decide +kernel
theorem dX3_sign_32 : decode cX3_sign 32 = .ok (.iadd, 1) := by decide +kernel
theorem dX3_sign_33 : decode cX3_sign 33 = .ok (.putfield 133, 3) := by decide +kernel
theorem dX3_sign_36 : decode cX3_sign 36 = .ok (.iload_n 2, 1) := by decide +kernel
theorem dX3_sign_37 : decode cX3_sign 37 = .ok (.ireturn, 1) := by decide +kernel
theorem dX3_done_0 : decode cX3_done 0 = .ok (.aload_n 0, 1) := by decide +kernel
theorem dX3_done_1 : decode cX3_done 1 = .ok (.dup, 1) := by decide +kernel
theorem dX3_done_2 : decode cX3_done 2 = .ok (.getfield 142, 3) := by decide +kernel
theorem dX3_done_5 : decode cX3_done 5 = .ok (.iload_n 1, 1) := by decide +kernel
theorem dX3_done_6 : decode cX3_done 6 = .ok (.ifCond .eq 7, 3) := by decide +kernel
theorem dX3_done_9 : decode cX3_done 9 = .ok (.iconst 0, 1) := by decide +kernel
theorem dX3_done_10 : decode cX3_done 10 = .ok (.goto 4, 3) := by decide +kernel
theorem dX3_done_13 : decode cX3_done 13 = .ok (.iconst 1, 1) := by decide +kernel
theorem dX3_done_14 : decode cX3_done 14 = .ok (.iadd, 1) := by decide +kernel
theorem dX3_done_15 : decode cX3_done 15 = .ok (.putfield 142, 3) := by decide +kernel
theorem dX3_done_18 : decode cX3_done 18 = .ok (.iconst 1, 1) := by decide +kernel
theorem dX3_done_19 : decode cX3_done 19 = .ok (.ireturn, 1) := by decide +kernel
theorem dX3_readCommand_0 : decode cX3_readCommand 0 = .ok (.aload_n 0, 1) := by decide +kernel
theorem dX3_readCommand_1 : decode cX3_readCommand 1 = .ok (.getfield 7, 3) := by decide +kernel
theorem dX3_readCommand_4 : decode cX3_readCommand 4 = .ok (.aload_n 0, 1) := by decide +kernel
theorem dX3_readCommand_5 : decode cX3_readCommand 5 = .ok (.getfield 133, 3) := by decide +kernel
theorem dX3_readCommand_8 : decode cX3_readCommand 8 = .ok (.iaload, 1) := by decide +kernel
theorem dX3_readCommand_9 : decode cX3_readCommand 9 = .ok (.istore_n 2, 1) := by decide +kernel
theorem dX3_readCommand_10 : decode cX3_readCommand 10 = .ok (.aload_n 0, 1) := by decide +kernel
theorem dX3_readCommand_11 : decode cX3_readCommand 11 = .ok (.dup, 1) := by decide +kernel
theorem dX3_readCommand_12 : decode cX3_readCommand 12 = .ok (.getfield 133, 3) := by decide +kernel
theorem dX3_readCommand_15 : decode cX3_readCommand 15 = .ok (.iconst 1, 1) := by decide +kernel
theorem dX3_readCommand_16 : decode cX3_readCommand 16 = .ok (.iadd, 1) := by decide +kernel
theorem dX3_readCommand_17 : decode cX3_readCommand 17 = .ok (.putfield 133, 3) := by decide +kernel
theorem dX3_readCommand_20 : decode cX3_readCommand 20 = .ok (.iload_n 2, 1) := by decide +kernel
theorem dX3_readCommand_21 : decode cX3_readCommand 21 = .ok (.lookupswitch 326 #[(98, 187), (108, 51), (109, 236), (116, 284), (118, 75)], 51) := by decide +kernel
theorem dX3_readCommand_72 : decode cX3_readCommand 72 = .ok (.aload_n 0, 1) := by decide +kernel
theorem dX3_readCommand_73 : decode cX3_readCommand 73 = .ok (.aload_n 1, 1) := by decide +kernel
theorem dX3_readCommand_74 : decode cX3_readCommand 74 = .ok (.iconst 0, 1) := by decide +kernel
theorem dX3_readCommand_75 : decode cX3_readCommand 75 = .ok (.iaload, 1) := by decide +kernel
theorem dX3_readCommand_76 : decode cX3_readCommand 76 = .ok (.iconst 3, 1) := by decide +kernel
theorem dX3_readCommand_77 : decode cX3_readCommand 77 = .ok (.if_icmp .ge 14, 3) := by decide +kernel
theorem dX3_readCommand_80 : decode cX3_readCommand 80 = .ok (.aload_n 1, 1) := by decide +kernel
theorem dX3_readCommand_81 : decode cX3_readCommand 81 = .ok (.invokestatic 145, 3) := by decide +kernel
theorem dX3_readCommand_84 : decode cX3_readCommand 84 = .ok (.ifCond .lt 7, 3) := by decide +kernel
theorem dX3_readCommand_87 : decode cX3_readCommand 87 = .ok (.iconst 1, 1) := by decide +kernel
theorem dX3_readCommand_88 : decode cX3_readCommand 88 = .ok (.goto 4, 3) := by decide +kernel
theorem dX3_readCommand_91 : decode cX3_readCommand 91 = .ok (.iconst 0, 1) := by decide +kernel
theorem dX3_readCommand_92 : decode cX3_readCommand 92 = .ok (.invokevirtual 149, 3) := by decide +kernel
theorem dX3_readCommand_95 : decode cX3_readCommand 95 = .ok (.ireturn, 1) := by decide +kernel
theorem dX3_readCommand_96 : decode cX3_readCommand 96 = .ok (.aload_n 0, 1) := by decide +kernel
theorem dX3_readCommand_97 : decode cX3_readCommand 97 = .ok (.iconst 0, 1) := by decide +kernel
theorem dX3_readCommand_98 : decode cX3_readCommand 98 = .ok (.iconst 1, 1) := by decide +kernel
theorem dX3_readCommand_99 : decode cX3_readCommand 99 = .ok (.iconst 0, 1) := by decide +kernel
theorem dX3_readCommand_100 : decode cX3_readCommand 100 = .ok (.iconst 2, 1) := by decide +kernel
theorem dX3_readCommand_101 : decode cX3_readCommand 101 = .ok (.invokevirtual 153, 3) := by decide +kernel
theorem dX3_readCommand_104 : decode cX3_readCommand 104 = .ok (.istore_n 3, 1) := by decide +kernel
theorem dX3_readCommand_105 : decode cX3_readCommand 105 = .ok (.aload_n 0, 1) := by decide +kernel
theorem dX3_readCommand_106 : decode cX3_readCommand 106 = .ok (.iload_n 3, 1) := by decide +kernel
theorem dX3_readCommand_107 : decode cX3_readCommand 107 = .ok (.iconst 2, 1) := by decide +kernel
theorem dX3_readCommand_108 : decode cX3_readCommand 108 = .ok (.iconst 2, 1) := by decide +kernel
theorem dX3_readCommand_109 : decode cX3_readCommand 109 = .ok (.bipush 12, 2) := by decide +kernel
theorem dX3_readCommand_111 : decode cX3_readCommand 111 = .ok (.invokevirtual 153, 3) := by decide +kernel
theorem dX3_readCommand_114 : decode cX3_readCommand 114 = .ok (.istore 4, 2) := by decide +kernel
theorem dX3_readCommand_116 : decode cX3_readCommand 116 = .ok (.iload 4, 2) := by decide +kernel
theorem dX3_readCommand_118 : decode cX3_readCommand 118 = .ok (.iconst (-1), 1) := by decide +kernel
theorem dX3_readCommand_119 : decode cX3_readCommand 119 = .ok (.if_icmp .eq 16, 3) := by decide +kernel
theorem dX3_readCommand_122 : decode cX3_readCommand 122 = .ok (.aload_n 0, 1) := by decide +kernel
theorem dX3_readCommand_123 : decode cX3_readCommand 123 = .ok (.bipush 120, 2) := by decide +kernel
theorem dX3_readCommand_125 : decode cX3_readCommand 125 = .ok (.invokevirtual 157, 3) := by decide +kernel
theorem dX3_readCommand_128 : decode cX3_readCommand 128 = .ok (.ifCond .eq 7, 3) := by decide +kernel
theorem dX3_readCommand_131 : decode cX3_readCommand 131 = .ok (.iconst 1, 1) := by decide +kernel
theorem dX3_readCommand_132 : decode cX3_readCommand 132 = .ok (.goto 4, 3) := by decide +kernel
theorem dX3_readCommand_135 : decode cX3_readCommand 135 = .ok (.iconst 0, 1) := by decide +kernel
theorem dX3_readCommand_136 : decode cX3_readCommand 136 = .ok (.istore 5, 2) := by decide +kernel
theorem dX3_readCommand_138 : decode cX3_readCommand 138 = .ok (.iload 4, 2) := by decide +kernel
theorem dX3_readCommand_140 : decode cX3_readCommand 140 = .ok (.iconst (-1), 1) := by decide +kernel
theorem dX3_readCommand_141 : decode cX3_readCommand 141 = .ok (.if_icmp .eq 16, 3) := by decide +kernel
theorem dX3_readCommand_144 : decode cX3_readCommand 144 = .ok (.aload_n 0, 1) := by decide +kernel
theorem dX3_readCommand_145 : decode cX3_readCommand 145 = .ok (.bipush 102, 2) := by decide +kernel
theorem dX3_readCommand_147 : decode cX3_readCommand 147 = .ok (.invokevirtual 157, 3) := by decide +kernel
theorem dX3_readCommand_150 : decode cX3_readCommand 150 = .ok (.ifCond .eq 7, 3) := by decide +kernel
theorem dX3_readCommand_153 : decode cX3_readCommand 153 = .ok (.iconst 1, 1) := by decide +kernel
theorem dX3_readCommand_154 : decode cX3_readCommand 154 = .ok (.goto 4, 3) := by decide +kernel
theorem dX3_readCommand_157 : decode cX3_readCommand 157 = .ok (.iconst 0, 1) := by decide +kernel
theorem dX3_readCommand_158 : decode cX3_readCommand 158 = .ok (.istore 6, 2) := by decide +kernel
theorem dX3_readCommand_160 : decode cX3_readCommand 160 = .ok (.iload 4, 2) := by decide +kernel
theorem dX3_readCommand_162 : decode cX3_readCommand 162 = .ok (.iconst (-1), 1) := by decide +kernel
theorem dX3_readCommand_163 : decode cX3_readCommand 163 = .ok (.if_icmp .eq 43, 3) := by decide +kernel
theorem dX3_readCommand_166 : decode cX3_readCommand 166 = .ok (.aload_n 0, 1) := by decide +kernel
theorem dX3_readCommand_167 : decode cX3_readCommand 167 = .ok (.aload_n 1, 1) := by decide +kernel
theorem dX3_readCommand_168 : decode cX3_readCommand 168 = .ok (.iload_n 3, 1) := by decide +kernel
theorem dX3_readCommand_169 : decode cX3_readCommand 169 = .ok (.iload 4, 2) := by decide +kernel
theorem dX3_readCommand_171 : decode cX3_readCommand 171 = .ok (.invokestatic 160, 3) := by decide +kernel
theorem dX3_readCommand_174 : decode cX3_readCommand 174 = .ok (.ifCond .eq 21, 3) := by decide +kernel
theorem dX3_readCommand_177 : decode cX3_readCommand 177 = .ok (.aload_n 1, 1) := by decide +kernel
theorem dX3_readCommand_178 : decode cX3_readCommand 178 = .ok (.iload_n 3, 1) := by decide +kernel
theorem dX3_readCommand_179 : decode cX3_readCommand 179 = .ok (.iload 4, 2) := by decide +kernel
theorem dX3_readCommand_181 : decode cX3_readCommand 181 = .ok (.iload 5, 2) := by decide +kernel
theorem dX3_readCommand_183 : decode cX3_readCommand 183 = .ok (.iload 6, 2) := by decide +kernel
theorem dX3_readCommand_185 : decode cX3_readCommand 185 = .ok (.invokestatic 163, 3) := by decide +kernel
theorem dX3_readCommand_188 : decode cX3_readCommand 188 = .ok (.ifCond .le 7, 3) := by decide +kernel
theorem dX3_readCommand_191 : decode cX3_readCommand 191 = .ok (.iconst 1, 1) := by decide +kernel
theorem dX3_readCommand_192 : decode cX3_readCommand 192 = .ok (.goto 4, 3) := by decide +kernel
theorem dX3_readCommand_195 : decode cX3_readCommand 195 = .ok (.iconst 0, 1) := by decide +kernel
theorem dX3_readCommand_196 : decode cX3_readCommand 196 = .ok (.invokevirtual 149, 3) := by decide +kernel
theorem dX3_readCommand_199 : decode cX3_readCommand 199 = .ok (.ifCond .eq 7, 3) := by decide +kernel
theorem dX3_readCommand_202 : decode cX3_readCommand 202 = .ok (.iconst 1, 1) := by decide +kernel
theorem dX3_readCommand_203 : decode cX3_readCommand 203 = .ok (.goto 4, 3) := by decide +kernel
theorem dX3_readCommand_206 : decode cX3_readCommand 206 = .ok (.iconst 0, 1) := by decide +kernel
theorem dX3_readCommand_207 : decode cX3_readCommand 207 = .ok (.ireturn, 1) := by decide +kernel
theorem dX3_readCommand_208 : decode cX3_readCommand 208 = .ok (.aload_n 0, 1) := by decide +kernel
theorem dX3_readCommand_209 : decode cX3_readCommand 209 = .ok (.iconst 0, 1) := by decide +kernel
theorem dX3_readCommand_210 : decode cX3_readCommand 210 = .ok (.iconst 1, 1) := by decide +kernel
theorem dX3_readCommand_211 : decode cX3_readCommand 211 = .ok (.iconst 0, 1) := by decide +kernel
theorem dX3_readCommand_212 : decode cX3_readCommand 212 = .ok (.iconst 2, 1) := by decide +kernel
theorem dX3_readCommand_213 : decode cX3_readCommand 213 = .ok (.invokevirtual 153, 3) := by decide +kernel
theorem dX3_readCommand_216 : decode cX3_readCommand 216 = .ok (.istore_n 3, 1) := by decide +kernel
theorem dX3_readCommand_217 : decode cX3_readCommand 217 = .ok (.iload_n 3, 1) := by decide +kernel
theorem dX3_readCommand_218 : decode cX3_readCommand 218 = .ok (.iconst (-1), 1) := by decide +kernel
theorem dX3_readCommand_219 : decode cX3_readCommand 219 = .ok (.if_icmp .eq 36, 3) := by decide +kernel
theorem dX3_readCommand_222 : decode cX3_readCommand 222 = .ok (.aload_n 0, 1) := by decide +kernel
theorem dX3_readCommand_223 : decode cX3_readCommand 223 = .ok (.aload_n 1, 1) := by decide +kernel
theorem dX3_readCommand_224 : decode cX3_readCommand 224 = .ok (.iload_n 3, 1) := by decide +kernel
theorem dX3_readCommand_225 : decode cX3_readCommand 225 = .ok (.invokestatic 44, 3) := by decide +kernel
theorem dX3_readCommand_228 : decode cX3_readCommand 228 = .ok (.ifCond .eq 16, 3) := by decide +kernel
theorem dX3_readCommand_231 : decode cX3_readCommand 231 = .ok (.aload_n 1, 1) := by decide +kernel
theorem dX3_readCommand_232 : decode cX3_readCommand 232 = .ok (.iload_n 3, 1) := by decide +kernel
theorem dX3_readCommand_233 : decode cX3_readCommand 233 = .ok (.iconst 1, 1) := by decide +kernel
theorem dX3_readCommand_234 : decode cX3_readCommand 234 = .ok (.invokestatic 167, 3) := by decide +kernel
theorem dX3_readCommand_237 : decode cX3_readCommand 237 = .ok (.ifCond .le 7, 3) := by decide +kernel
theorem dX3_readCommand_240 : decode cX3_readCommand 240 = .ok (.iconst 1, 1) := by decide +kernel
theorem dX3_readCommand_241 : decode cX3_readCommand 241 = .ok (.goto 4, 3) := by decide +kernel
theorem dX3_readCommand_244 : decode cX3_readCommand 244 = .ok (.iconst 0, 1) := by decide +kernel
theorem dX3_readCommand_245 : decode cX3_readCommand 245 = .ok (.invokevirtual 149, 3) := by decide +kernel
theorem dX3_readCommand_248 : decode cX3_readCommand 248 = .ok (.ifCond .eq 7, 3) := by decide +kernel
theorem dX3_readCommand_251 : decode cX3_readCommand 251 = .ok (.iconst 1, 1) := by decide +kernel
theorem dX3_readCommand_252 : decode cX3_readCommand 252 = .ok (.goto 4, 3) := by decide +kernel
theorem dX3_readCommand_255 : decode cX3_readCommand 255 = .ok (.iconst 0, 1) := by decide +kernel
theorem dX3_readCommand_256 : decode cX3_readCommand 256 = .ok (.ireturn, 1) := by decide +kernel
theorem dX3_readCommand_257 : decode cX3_readCommand 257 = .ok (.aload_n 0, 1) := by decide +kernel
theorem dX3_readCommand_258 : decode cX3_readCommand 258 = .ok (.iconst 0, 1) := by decide +kernel
theorem dX3_readCommand_259 : decode cX3_readCommand 259 = .ok (.iconst 1, 1) := by decide +kernel
theorem dX3_readCommand_260 : decode cX3_readCommand 260 = .ok (.iconst 0, 1) := by decide +kernel
theorem dX3_readCommand_261 : decode cX3_readCommand 261 = .ok (.iconst 2, 1) := by decide +kernel
theorem dX3_readCommand_262 : decode cX3_readCommand 262 = .ok (.invokevirtual 153, 3) := by decide +kernel
theorem dX3_readCommand_265 : decode cX3_readCommand 265 = .ok (.istore_n 3, 1) := by decide +kernel
theorem dX3_readCommand_266 : decode cX3_readCommand 266 = .ok (.iload_n 3, 1) := by decide +kernel
theorem dX3_readCommand_267 : decode cX3_readCommand 267 = .ok (.iconst (-1), 1) := by decide +kernel
theorem dX3_readCommand_268 : decode cX3_readCommand 268 = .ok (.if_icmp .eq 35, 3) := by decide +kernel
theorem dX3_readCommand_271 : decode cX3_readCommand 271 = .ok (.aload_n 0, 1) := by decide +kernel
theorem dX3_readCommand_272 : decode cX3_readCommand 272 = .ok (.aload_n 1, 1) := by decide +kernel
theorem dX3_readCommand_273 : decode cX3_readCommand 273 = .ok (.iload_n 3, 1) := by decide +kernel
theorem dX3_readCommand_274 : decode cX3_readCommand 274 = .ok (.invokestatic 171, 3) := by decide +kernel
theorem dX3_readCommand_277 : decode cX3_readCommand 277 = .ok (.ifCond .eq 15, 3) := by decide +kernel
theorem dX3_readCommand_280 : decode cX3_readCommand 280 = .ok (.aload_n 1, 1) := by decide +kernel
theorem dX3_readCommand_281 : decode cX3_readCommand 281 = .ok (.iload_n 3, 1) := by decide +kernel
theorem dX3_readCommand_282 : decode cX3_readCommand 282 = .ok (.invokestatic 174, 3) := by decide +kernel
theorem dX3_readCommand_285 : decode cX3_readCommand 285 = .ok (.ifCond .lt 7, 3) := by decide +kernel
theorem dX3_readCommand_288 : decode cX3_readCommand 288 = .ok (.iconst 1, 1) := by decide +kernel
theorem dX3_readCommand_289 : decode cX3_readCommand 289 = .ok (.goto 4, 3) := by decide +kernel
theorem dX3_readCommand_292 : decode cX3_readCommand 292 = .ok (.iconst 0, 1) := by decide +kernel
theorem dX3_readCommand_293 : decode cX3_readCommand 293 = .ok (.invokevirtual 149, 3) := by decide +kernel
theorem dX3_readCommand_296 : decode cX3_readCommand 296 = .ok (.ifCond .eq 7, 3) := by decide +kernel
theorem dX3_readCommand_299 : decode cX3_readCommand 299 = .ok (.iconst 1, 1) := by decide +kernel
theorem dX3_readCommand_300 : decode cX3_readCommand 300 = .ok (.goto 4, 3) := by decide +kernel
theorem dX3_readCommand_303 : decode cX3_readCommand 303 = .ok (.iconst 0, 1) := by decide +kernel
theorem dX3_readCommand_304 : decode cX3_readCommand 304 = .ok (.ireturn, 1) := by decide +kernel
theorem dX3_readCommand_305 : decode cX3_readCommand 305 = .ok (.aload_n 0, 1) := by decide +kernel
theorem dX3_readCommand_306 : decode cX3_readCommand 306 = .ok (.iconst 0, 1) := by decide +kernel
theorem dX3_readCommand_307 : decode cX3_readCommand 307 = .ok (.iconst 2, 1) := by decide +kernel
theorem dX3_readCommand_308 : decode cX3_readCommand 308 = .ok (.iconst 1, 1) := by decide +kernel
theorem dX3_readCommand_309 : decode cX3_readCommand 309 = .ok (.bipush 60, 2) := by decide +kernel
theorem dX3_readCommand_311 : decode cX3_readCommand 311 = .ok (.invokevirtual 153, 3) := by decide +kernel
theorem dX3_readCommand_314 : decode cX3_readCommand 314 = .ok (.istore_n 3, 1) := by decide +kernel
theorem dX3_readCommand_315 : decode cX3_readCommand 315 = .ok (.iload_n 3, 1) := by decide +kernel
theorem dX3_readCommand_316 : decode cX3_readCommand 316 = .ok (.iconst (-1), 1) := by decide +kernel
theorem dX3_readCommand_317 : decode cX3_readCommand 317 = .ok (.if_icmp .eq 28, 3) := by decide +kernel
theorem dX3_readCommand_320 : decode cX3_readCommand 320 = .ok (.aload_n 0, 1) := by decide +kernel
theorem dX3_readCommand_321 : decode cX3_readCommand 321 = .ok (.aload_n 0, 1) := by decide +kernel
theorem dX3_readCommand_322 : decode cX3_readCommand 322 = .ok (.aload_n 1, 1) := by decide +kernel
theorem dX3_readCommand_323 : decode cX3_readCommand 323 = .ok (.iload_n 3, 1) := by decide +kernel
theorem dX3_readCommand_324 : decode cX3_readCommand 324 = .ok (.invokevirtual 177, 3) := by decide +kernel
theorem dX3_readCommand_327 : decode cX3_readCommand 327 = .ok (.ifCond .lt 7, 3) := by decide +kernel
theorem dX3_readCommand_330 : decode cX3_readCommand 330 = .ok (.iconst 1, 1) := by decide +kernel
theorem dX3_readCommand_331 : decode cX3_readCommand 331 = .ok (.goto 4, 3) := by decide +kernel
theorem dX3_readCommand_334 : decode cX3_readCommand 334 = .ok (.iconst 0, 1) := by decide +kernel
theorem dX3_readCommand_335 : decode cX3_readCommand 335 = .ok (.invokevirtual 149, 3) := by decide +kernel
theorem dX3_readCommand_338 : decode cX3_readCommand 338 = .ok (.ifCond .eq 7, 3) := by decide +kernel
theorem dX3_readCommand_341 : decode cX3_readCommand 341 = .ok (.iconst 1, 1) := by decide +kernel
theorem dX3_readCommand_342 : decode cX3_readCommand 342 = .ok (.goto 4, 3) := by decide +kernel
theorem dX3_readCommand_345 : decode cX3_readCommand 345 = .ok (.iconst 0, 1) := by decide +kernel
theorem dX3_readCommand_346 : decode cX3_readCommand 346 = .ok (.ireturn, 1) := by decide +kernel
theorem dX3_readCommand_347 : decode cX3_readCommand 347 = .ok (.aload_n 0, 1) := by decide +kernel
theorem dX3_readCommand_348 : decode cX3_readCommand 348 = .ok (.dup, 1) := by decide +kernel
theorem dX3_readCommand_349 : decode cX3_readCommand 349 = .ok (.getfield 133, 3) := by decide +kernel
theorem dX3_readCommand_352 : decode cX3_readCommand 352 = .ok (.iconst 1, 1) := by decide +kernel
theorem dX3_readCommand_353 : decode cX3_readCommand 353 = .ok (.isub, 1) := by decide +kernel
theorem dX3_readCommand_354 : decode cX3_readCommand 354 = .ok (.putfield 133, 3) := by decide +kernel
theorem dX3_readCommand_357 : decode cX3_readCommand 357 = .ok (.iconst 0, 1) := by decide +kernel
theorem dX3_readCommand_358 : decode cX3_readCommand 358 = .ok (.ireturn, 1) := by decide +kernel
theorem dX3_readText_0 : decode cX3_readText 0 = .ok (.aload_n 1, 1) := by decide +kernel
theorem dX3_readText_1 : decode cX3_readText 1 = .ok (.invokestatic 32, 3) := by decide +kernel
theorem dX3_readText_4 : decode cX3_readText 4 = .ok (.aload_n 0, 1) := by decide +kernel
theorem dX3_readText_5 : decode cX3_readText 5 = .ok (.iconst 0, 1) := by decide +kernel
theorem dX3_readText_6 : decode cX3_readText 6 = .ok (.putfield 142, 3) := by decide +kernel
theorem dX3_readText_9 : decode cX3_readText 9 = .ok (.aload_n 0, 1) := by decide +kernel
theorem dX3_readText_10 : decode cX3_readText 10 = .ok (.iconst 0, 1) := by decide +kernel
theorem dX3_readText_11 : decode cX3_readText 11 = .ok (.putfield 133, 3) := by decide +kernel
theorem dX3_readText_14 : decode cX3_readText 14 = .ok (.aload_n 0, 1) := by decide +kernel
theorem dX3_readText_15 : decode cX3_readText 15 = .ok (.iconst 0, 1) := by decide +kernel
theorem dX3_readText_16 : decode cX3_readText 16 = .ok (.invokevirtual 136, 3) := by decide +kernel
theorem dX3_readText_19 : decode cX3_readText 19 = .ok (.bipush 71, 2) := by decide +kernel
theorem dX3_readText_21 : decode cX3_readText 21 = .ok (.if_icmp .eq 5, 3) := by decide +kernel
theorem dX3_readText_24 : decode cX3_readText 24 = .ok (.iconst 0, 1) := by decide +kernel
theorem dX3_readText_25 : decode cX3_readText 25 = .ok (.ireturn, 1) := by decide +kernel
theorem dX3_readText_26 : decode cX3_readText 26 = .ok (.aload_n 0, 1) := by decide +kernel
theorem dX3_readText_27 : decode cX3_readText 27 = .ok (.iconst 1, 1) := by decide +kernel
theorem dX3_readText_28 : decode cX3_readText 28 = .ok (.putfield 133, 3) := by decide +kernel
theorem dX3_readText_31 : decode cX3_readText 31 = .ok (.aload_n 0, 1) := by decide +kernel
theorem dX3_readText_32 : decode cX3_readText 32 = .ok (.getfield 133, 3) := by decide +kernel
theorem dX3_readText_35 : decode cX3_readText 35 = .ok (.aload_n 0, 1) := by decide +kernel
theorem dX3_readText_36 : decode cX3_readText 36 = .ok (.getfield 127, 3) := by decide +kernel
theorem dX3_readText_39 : decode cX3_readText 39 = .ok (.if_icmp .ge 16, 3) := by decide +kernel
theorem dX3_readText_42 : decode cX3_readText 42 = .ok (.aload_n 0, 1) := by decide +kernel
theorem dX3_readText_43 : decode cX3_readText 43 = .ok (.aload_n 1, 1) := by decide +kernel
theorem dX3_readText_44 : decode cX3_readText 44 = .ok (.invokevirtual 180, 3) := by decide +kernel
theorem dX3_readText_47 : decode cX3_readText 47 = .ok (.ifCond .ne (-16), 3) := by decide +kernel
theorem dX3_readText_50 : decode cX3_readText 50 = .ok (.aload_n 0, 1) := by decide +kernel
theorem dX3_readText_51 : decode cX3_readText 51 = .ok (.getfield 133, 3) := by decide +kernel
theorem dX3_readText_54 : decode cX3_readText 54 = .ok (.ireturn, 1) := by decide +kernel
theorem dX3_readText_55 : decode cX3_readText 55 = .ok (.iconst (-1), 1) := by decide +kernel
theorem dX3_readText_56 : decode cX3_readText 56 = .ok (.ireturn, 1) := by decide +kernel
theorem dX3_errorPosition_0 : decode cX3_errorPosition 0 = .ok (.aload_n 0, 1) := by decide +kernel
theorem dX3_errorPosition_1 : decode cX3_errorPosition 1 = .ok (.iconst 0, 1) := by decide +kernel
theorem dX3_errorPosition_2 : decode cX3_errorPosition 2 = .ok (.putfield 36, 3) := by decide +kernel
theorem dX3_errorPosition_5 : decode cX3_errorPosition 5 = .ok (.aload_n 0, 1) := by decide +kernel
theorem dX3_errorPosition_6 : decode cX3_errorPosition 6 = .ok (.aload_n 0, 1) := by decide +kernel
theorem dX3_errorPosition_7 : decode cX3_errorPosition 7 = .ok (.getfield 16, 3) := by decide +kernel
theorem dX3_errorPosition_10 : decode cX3_errorPosition 10 = .ok (.invokevirtual 184, 3) := by decide +kernel
theorem dX3_errorPosition_13 : decode cX3_errorPosition 13 = .ok (.ireturn, 1) := by decide +kernel
theorem dX3_load_0 : decode cX3_load 0 = .ok (.aload_n 0, 1) := by decide +kernel
theorem dX3_load_1 : decode cX3_load 1 = .ok (.aload_n 0, 1) := by decide +kernel
theorem dX3_load_2 : decode cX3_load 2 = .ok (.aload_n 0, 1) := by decide +kernel
theorem dX3_load_3 : decode cX3_load 3 = .ok (.getfield 16, 3) := by decide +kernel
theorem dX3_load_6 : decode cX3_load 6 = .ok (.invokevirtual 184, 3) := by decide +kernel
theorem dX3_load_9 : decode cX3_load 9 = .ok (.iconst (-1), 1) := by decide +kernel
theorem dX3_load_10 : decode cX3_load 10 = .ok (.if_icmp .ne 7, 3) := by decide +kernel
theorem dX3_load_13 : decode cX3_load 13 = .ok (.iconst 0, 1) := by decide +kernel
theorem dX3_load_14 : decode cX3_load 14 = .ok (.goto 4, 3) := by decide +kernel
theorem dX3_load_17 : decode cX3_load 17 = .ok (.iconst 1, 1) := by decide +kernel
theorem dX3_load_18 : decode cX3_load 18 = .ok (.invokevirtual 130, 3) := by decide +kernel
theorem dX3_load_21 : decode cX3_load 21 = .ok (.ifCond .eq 5, 3) := by decide +kernel
theorem dX3_load_24 : decode cX3_load 24 = .ok (.iconst 0, 1) := by decide +kernel
theorem dX3_load_25 : decode cX3_load 25 = .ok (.ireturn, 1) := by decide +kernel
theorem dX3_load_26 : decode cX3_load 26 = .ok (.aload_n 0, 1) := by decide +kernel
theorem dX3_load_27 : decode cX3_load 27 = .ok (.getfield 16, 3) := by decide +kernel
theorem dX3_load_30 : decode cX3_load 30 = .ok (.iconst 0, 1) := by decide +kernel
theorem dX3_load_31 : decode cX3_load 31 = .ok (.aload_n 0, 1) := by decide +kernel
theorem dX3_load_32 : decode cX3_load 32 = .ok (.getfield 13, 3) := by decide +kernel
theorem dX3_load_35 : decode cX3_load 35 = .ok (.iconst 0, 1) := by decide +kernel
theorem dX3_load_36 : decode cX3_load 36 = .ok (.invokestatic 187, 3) := by decide +kernel
theorem dX3_load_39 : decode cX3_load 39 = .ok (.aload_n 0, 1) := by decide +kernel
theorem dX3_load_40 : decode cX3_load 40 = .ok (.iconst 0, 1) := by decide +kernel
theorem dX3_load_41 : decode cX3_load 41 = .ok (.putfield 191, 3) := by decide +kernel
theorem dX3_load_44 : decode cX3_load 44 = .ok (.aload_n 0, 1) := by decide +kernel
theorem dX3_load_45 : decode cX3_load 45 = .ok (.getfield 25, 3) := by decide +kernel
theorem dX3_load_48 : decode cX3_load 48 = .ok (.iconst 0, 1) := by decide +kernel
theorem dX3_load_49 : decode cX3_load 49 = .ok (.iconst 0, 1) := by decide +kernel
theorem dX3_load_50 : decode cX3_load 50 = .ok (.bastore, 1) := by decide +kernel
theorem dX3_load_51 : decode cX3_load 51 = .ok (.aload_n 0, 1) := by decide +kernel
theorem dX3_load_52 : decode cX3_load 52 = .ok (.getfield 25, 3) := by decide +kernel
theorem dX3_load_55 : decode cX3_load 55 = .ok (.iconst 1, 1) := by decide +kernel
theorem dX3_load_56 : decode cX3_load 56 = .ok (.iconst 0, 1) := by decide +kernel
theorem dX3_load_57 : decode cX3_load 57 = .ok (.bastore, 1) := by decide +kernel
theorem dX3_load_58 : decode cX3_load 58 = .ok (.aload_n 0, 1) := by decide +kernel
theorem dX3_load_59 : decode cX3_load 59 = .ok (.getfield 142, 3) := by decide +kernel
theorem dX3_load_62 : decode cX3_load 62 = .ok (.ireturn, 1) := by decide +kernel
theorem dX3_about_0 : decode cX3_about 0 = .ok (.aload_n 0, 1) := by decide +kernel
theorem dX3_about_1 : decode cX3_about 1 = .ok (.iload_n 1, 1) := by decide +kernel
theorem dX3_about_2 : decode cX3_about 2 = .ok (.i2l, 1) := by decide +kernel
theorem dX3_about_3 : decode cX3_about 3 = .ok (.lconst 0, 1) := by decide +kernel
theorem dX3_about_4 : decode cX3_about 4 = .ok (.ldc2_w 140, 3) := by decide +kernel
theorem dX3_about_7 : decode cX3_about 7 = .ok (.invokestatic 40, 3) := by decide +kernel
theorem dX3_about_10 : decode cX3_about 10 = .ok (.ifCond .eq 7, 3) := by decide +kernel
theorem dX3_about_13 : decode cX3_about 13 = .ok (.iconst 0, 1) := by decide +kernel
theorem dX3_about_14 : decode cX3_about 14 = .ok (.goto 4, 3) := by decide +kernel
theorem dX3_about_17 : decode cX3_about 17 = .ok (.iconst 1, 1) := by decide +kernel
theorem dX3_about_18 : decode cX3_about 18 = .ok (.invokevirtual 130, 3) := by decide +kernel
theorem dX3_about_21 : decode cX3_about 21 = .ok (.ifCond .eq 5, 3) := by decide +kernel
theorem dX3_about_24 : decode cX3_about 24 = .ok (.iconst 0, 1) := by decide +kernel
theorem dX3_about_25 : decode cX3_about 25 = .ok (.ireturn, 1) := by decide +kernel
theorem dX3_about_26 : decode cX3_about 26 = .ok (.iload_n 1, 1) := by decide +kernel
theorem dX3_about_27 : decode cX3_about 27 = .ok (.tableswitch 95 0 9 #[53, 53, 60, 95, 95, 95, 95, 69, 78, 87], 53) := by decide +kernel
theorem dX3_about_80 : decode cX3_about 80 = .ok (.aload_n 0, 1) := by decide +kernel
theorem dX3_about_81 : decode cX3_about 81 = .ok (.getfield 13, 3) := by decide +kernel
theorem dX3_about_84 : decode cX3_about 84 = .ok (.iload_n 1, 1) := by decide +kernel
theorem dX3_about_85 : decode cX3_about 85 = .ok (.iaload, 1) := by decide +kernel
theorem dX3_about_86 : decode cX3_about 86 = .ok (.ireturn, 1) := by decide +kernel
theorem dX3_about_87 : decode cX3_about 87 = .ok (.aload_n 0, 1) := by decide +kernel
theorem dX3_about_88 : decode cX3_about 88 = .ok (.getfield 13, 3) := by decide +kernel
theorem dX3_about_91 : decode cX3_about 91 = .ok (.iconst 0, 1) := by decide +kernel
theorem dX3_about_92 : decode cX3_about 92 = .ok (.invokestatic 118, 3) := by decide +kernel
theorem dX3_about_95 : decode cX3_about 95 = .ok (.ireturn, 1) := by decide +kernel
theorem dX3_about_96 : decode cX3_about 96 = .ok (.aload_n 0, 1) := by decide +kernel
theorem dX3_about_97 : decode cX3_about 97 = .ok (.getfield 13, 3) := by decide +kernel
theorem dX3_about_100 : decode cX3_about 100 = .ok (.iconst 5, 1) := by decide +kernel
theorem dX3_about_101 : decode cX3_about 101 = .ok (.invokestatic 118, 3) := by decide +kernel
theorem dX3_about_104 : decode cX3_about 104 = .ok (.ireturn, 1) := by decide +kernel
theorem dX3_about_105 : decode cX3_about 105 = .ok (.aload_n 0, 1) := by decide +kernel
theorem dX3_about_106 : decode cX3_about 106 = .ok (.getfield 13, 3) := by decide +kernel
theorem dX3_about_109 : decode cX3_about 109 = .ok (.iconst 4, 1) := by decide +kernel
theorem dX3_about_110 : decode cX3_about 110 = .ok (.invokestatic 118, 3) := by decide +kernel
theorem dX3_about_113 : decode cX3_about 113 = .ok (.ireturn, 1) := by decide +kernel
theorem dX3_about_114 : decode cX3_about 114 = .ok (.aload_n 0, 1) := by decide +kernel
theorem dX3_about_115 : decode cX3_about 115 = .ok (.getfield 13, 3) := by decide +kernel
theorem dX3_about_118 : decode cX3_about 118 = .ok (.bipush 6, 2) := by decide +kernel
theorem dX3_about_120 : decode cX3_about 120 = .ok (.iaload, 1) := by decide +kernel
theorem dX3_about_121 : decode cX3_about 121 = .ok (.ireturn, 1) := by decide +kernel
theorem dX3_about_122 : decode cX3_about 122 = .ok (.aload_n 0, 1) := by decide +kernel
theorem dX3_about_123 : decode cX3_about 123 = .ok (.getfield 13, 3) := by decide +kernel
theorem dX3_about_126 : decode cX3_about 126 = .ok (.iload_n 1, 1) := by decide +kernel
theorem dX3_about_127 : decode cX3_about 127 = .ok (.iconst 1, 1) := by decide +kernel
theorem dX3_about_128 : decode cX3_about 128 = .ok (.isub, 1) := by decide +kernel
theorem dX3_about_129 : decode cX3_about 129 = .ok (.iaload, 1) := by decide +kernel
theorem dX3_about_130 : decode cX3_about 130 = .ok (.ireturn, 1) := by decide +kernel
theorem dX3_laneOf_0 : decode cX3_laneOf 0 = .ok (.aload_n 0, 1) := by decide +kernel
theorem dX3_laneOf_1 : decode cX3_laneOf 1 = .ok (.aload_n 0, 1) := by decide +kernel
theorem dX3_laneOf_2 : decode cX3_laneOf 2 = .ok (.getfield 13, 3) := by decide +kernel
theorem dX3_laneOf_5 : decode cX3_laneOf 5 = .ok (.iload_n 1, 1) := by decide +kernel
theorem dX3_laneOf_6 : decode cX3_laneOf 6 = .ok (.invokestatic 44, 3) := by decide +kernel
theorem dX3_laneOf_9 : decode cX3_laneOf 9 = .ok (.ifCond .ne 7, 3) := by decide +kernel
theorem dX3_laneOf_12 : decode cX3_laneOf 12 = .ok (.iconst 1, 1) := by decide +kernel
theorem dX3_laneOf_13 : decode cX3_laneOf 13 = .ok (.goto 20, 3) := by decide +kernel
theorem dX3_laneOf_16 : decode cX3_laneOf 16 = .ok (.iload_n 2, 1) := by decide +kernel
theorem dX3_laneOf_17 : decode cX3_laneOf 17 = .ok (.i2l, 1) := by decide +kernel
theorem dX3_laneOf_18 : decode cX3_laneOf 18 = .ok (.lconst 0, 1) := by decide +kernel
theorem dX3_laneOf_19 : decode cX3_laneOf 19 = .ok (.ldc2_w 194, 3) := by decide +kernel
theorem dX3_laneOf_22 : decode cX3_laneOf 22 = .ok (.invokestatic 40, 3) := by decide +kernel
theorem dX3_laneOf_25 : decode cX3_laneOf 25 = .ok (.ifCond .eq 7, 3) := by decide +kernel
theorem dX3_laneOf_28 : decode cX3_laneOf 28 = .ok (.iconst 0, 1) := by decide +kernel
theorem dX3_laneOf_29 : decode cX3_laneOf 29 = .ok (.goto 4, 3) := by decide +kernel
theorem dX3_laneOf_32 : decode cX3_laneOf 32 = .ok (.iconst 2, 1) := by decide +kernel
theorem dX3_laneOf_33 : decode cX3_laneOf 33 = .ok (.invokevirtual 130, 3) := by decide +kernel
theorem dX3_laneOf_36 : decode cX3_laneOf 36 = .ok (.ifCond .eq 5, 3) := by decide +kernel
theorem dX3_laneOf_39 : decode cX3_laneOf 39 = .ok (.iconst 0, 1) := by decide +kernel
theorem dX3_laneOf_40 : decode cX3_laneOf 40 = .ok (.ireturn, 1) := by decide +kernel
theorem dX3_laneOf_41 : decode cX3_laneOf 41 = .ok (.iconst 0, 1) := by decide +kernel
theorem dX3_laneOf_42 : decode cX3_laneOf 42 = .ok (.istore_n 3, 1) := by decide +kernel
theorem dX3_laneOf_43 : decode cX3_laneOf 43 = .ok (.iconst 0, 1) := by decide +kernel
theorem dX3_laneOf_44 : decode cX3_laneOf 44 = .ok (.istore 4, 2) := by decide +kernel
theorem dX3_laneOf_46 : decode cX3_laneOf 46 = .ok (.iload 4, 2) := by decide +kernel
theorem dX3_laneOf_48 : decode cX3_laneOf 48 = .ok (.aload_n 0, 1) := by decide +kernel
theorem dX3_laneOf_49 : decode cX3_laneOf 49 = .ok (.getfield 13, 3) := by decide +kernel
theorem dX3_laneOf_52 : decode cX3_laneOf 52 = .ok (.iload_n 1, 1) := by decide +kernel
theorem dX3_laneOf_53 : decode cX3_laneOf 53 = .ok (.iconst 0, 1) := by decide +kernel
theorem dX3_laneOf_54 : decode cX3_laneOf 54 = .ok (.invokestatic 48, 3) := by decide +kernel
theorem dX3_laneOf_57 : decode cX3_laneOf 57 = .ok (.if_icmp .ge 47, 3) := by decide +kernel
theorem dX3_laneOf_60 : decode cX3_laneOf 60 = .ok (.iload_n 3, 1) := by decide +kernel
theorem dX3_laneOf_61 : decode cX3_laneOf 61 = .ok (.aload_n 0, 1) := by decide +kernel
theorem dX3_laneOf_62 : decode cX3_laneOf 62 = .ok (.getfield 13, 3) := by decide +kernel
theorem dX3_laneOf_65 : decode cX3_laneOf 65 = .ok (.iload_n 1, 1) := by decide +kernel
theorem dX3_laneOf_66 : decode cX3_laneOf 66 = .ok (.iload 4, 2) := by decide +kernel
theorem dX3_laneOf_68 : decode cX3_laneOf 68 = .ok (.iconst 4, 1) := by decide +kernel
theorem dX3_laneOf_69 : decode cX3_laneOf 69 = .ok (.invokestatic 56, 3) := by decide +kernel
theorem dX3_laneOf_72 : decode cX3_laneOf 72 = .ok (.ifCond .ne 23, 3) := by decide +kernel
theorem dX3_laneOf_75 : decode cX3_laneOf 75 = .ok (.aload_n 0, 1) := by decide +kernel
theorem dX3_laneOf_76 : decode cX3_laneOf 76 = .ok (.getfield 13, 3) := by decide +kernel
theorem dX3_laneOf_79 : decode cX3_laneOf 79 = .ok (.iload_n 1, 1) := by decide +kernel
theorem dX3_laneOf_80 : decode cX3_laneOf 80 = .ok (.iload 4, 2) := by decide +kernel
theorem dX3_laneOf_82 : decode cX3_laneOf 82 = .ok (.iconst 1, 1) := by decide +kernel
theorem dX3_laneOf_83 : decode cX3_laneOf 83 = .ok (.invokestatic 56, 3) := by decide +kernel
theorem dX3_laneOf_86 : decode cX3_laneOf 86 = .ok (.bipush 20, 2) := by decide +kernel
theorem dX3_laneOf_88 : decode cX3_laneOf 88 = .ok (.if_icmp .ge 7, 3) := by decide +kernel
theorem dX3_laneOf_91 : decode cX3_laneOf 91 = .ok (.iconst 1, 1) := by decide +kernel
theorem dX3_laneOf_92 : decode cX3_laneOf 92 = .ok (.goto 4, 3) := by decide +kernel
theorem dX3_laneOf_95 : decode cX3_laneOf 95 = .ok (.iconst 0, 1) := by decide +kernel
theorem dX3_laneOf_96 : decode cX3_laneOf 96 = .ok (.iadd, 1) := by decide +kernel
theorem dX3_laneOf_97 : decode cX3_laneOf 97 = .ok (.istore_n 3, 1) := by decide +kernel
theorem dX3_laneOf_98 : decode cX3_laneOf 98 = .ok (.iinc 4 1, 3) := by decide +kernel
theorem dX3_laneOf_101 : decode cX3_laneOf 101 = .ok (.goto (-55), 3) := by decide +kernel
theorem dX3_laneOf_104 : decode cX3_laneOf 104 = .ok (.iload_n 2, 1) := by decide +kernel
theorem dX3_laneOf_105 : decode cX3_laneOf 105 = .ok (.bipush 7, 2) := by decide +kernel
theorem dX3_laneOf_107 : decode cX3_laneOf 107 = .ok (.if_icmp .ge 15, 3) := by decide +kernel
theorem dX3_laneOf_110 : decode cX3_laneOf 110 = .ok (.aload_n 0, 1) := by decide +kernel
theorem dX3_laneOf_111 : decode cX3_laneOf 111 = .ok (.getfield 13, 3) := by decide +kernel
theorem dX3_laneOf_114 : decode cX3_laneOf 114 = .ok (.iload_n 1, 1) := by decide +kernel
theorem dX3_laneOf_115 : decode cX3_laneOf 115 = .ok (.iload_n 2, 1) := by decide +kernel
theorem dX3_laneOf_116 : decode cX3_laneOf 116 = .ok (.invokestatic 48, 3) := by decide +kernel
theorem dX3_laneOf_119 : decode cX3_laneOf 119 = .ok (.goto 4, 3) := by decide +kernel
theorem dX3_laneOf_122 : decode cX3_laneOf 122 = .ok (.iload_n 3, 1) := by decide +kernel
theorem dX3_laneOf_123 : decode cX3_laneOf 123 = .ok (.ireturn, 1) := by decide +kernel
theorem dX3_vehicle_0 : decode cX3_vehicle 0 = .ok (.aload_n 0, 1) := by decide +kernel
theorem dX3_vehicle_1 : decode cX3_vehicle 1 = .ok (.aload_n 0, 1) := by decide +kernel
theorem dX3_vehicle_2 : decode cX3_vehicle 2 = .ok (.getfield 13, 3) := by decide +kernel
theorem dX3_vehicle_5 : decode cX3_vehicle 5 = .ok (.iload_n 1, 1) := by decide +kernel
theorem dX3_vehicle_6 : decode cX3_vehicle 6 = .ok (.iload_n 2, 1) := by decide +kernel
theorem dX3_vehicle_7 : decode cX3_vehicle 7 = .ok (.invokestatic 196, 3) := by decide +kernel
theorem dX3_vehicle_10 : decode cX3_vehicle 10 = .ok (.ifCond .ne 7, 3) := by decide +kernel
theorem dX3_vehicle_13 : decode cX3_vehicle 13 = .ok (.iconst 1, 1) := by decide +kernel
theorem dX3_vehicle_14 : decode cX3_vehicle 14 = .ok (.goto 20, 3) := by decide +kernel
theorem dX3_vehicle_17 : decode cX3_vehicle 17 = .ok (.iload_n 3, 1) := by decide +kernel
theorem dX3_vehicle_18 : decode cX3_vehicle 18 = .ok (.i2l, 1) := by decide +kernel
theorem dX3_vehicle_19 : decode cX3_vehicle 19 = .ok (.lconst 0, 1) := by decide +kernel
theorem dX3_vehicle_20 : decode cX3_vehicle 20 = .ok (.ldc2_w 199, 3) := by decide +kernel
theorem dX3_vehicle_23 : decode cX3_vehicle 23 = .ok (.invokestatic 40, 3) := by decide +kernel
theorem dX3_vehicle_26 : decode cX3_vehicle 26 = .ok (.ifCond .eq 7, 3) := by decide +kernel
theorem dX3_vehicle_29 : decode cX3_vehicle 29 = .ok (.iconst 0, 1) := by decide +kernel
theorem dX3_vehicle_30 : decode cX3_vehicle 30 = .ok (.goto 4, 3) := by decide +kernel
theorem dX3_vehicle_33 : decode cX3_vehicle 33 = .ok (.iconst 2, 1) := by decide +kernel
theorem dX3_vehicle_34 : decode cX3_vehicle 34 = .ok (.invokevirtual 130, 3) := by decide +kernel
theorem dX3_vehicle_37 : decode cX3_vehicle 37 = .ok (.ifCond .eq 5, 3) := by decide +kernel
theorem dX3_vehicle_40 : decode cX3_vehicle 40 = .ok (.iconst 0, 1) := by decide +kernel
theorem dX3_vehicle_41 : decode cX3_vehicle 41 = .ok (.ireturn, 1) := by decide +kernel
theorem dX3_vehicle_42 : decode cX3_vehicle 42 = .ok (.aload_n 0, 1) := by decide +kernel
theorem dX3_vehicle_43 : decode cX3_vehicle 43 = .ok (.getfield 13, 3) := by decide +kernel
theorem dX3_vehicle_46 : decode cX3_vehicle 46 = .ok (.iload_n 1, 1) := by decide +kernel
theorem dX3_vehicle_47 : decode cX3_vehicle 47 = .ok (.iload_n 2, 1) := by decide +kernel
theorem dX3_vehicle_48 : decode cX3_vehicle 48 = .ok (.iload_n 3, 1) := by decide +kernel
theorem dX3_vehicle_49 : decode cX3_vehicle 49 = .ok (.invokestatic 56, 3) := by decide +kernel
theorem dX3_vehicle_52 : decode cX3_vehicle 52 = .ok (.ireturn, 1) := by decide +kernel
theorem dX3_whyOf_0 : decode cX3_whyOf 0 = .ok (.aload_n 0, 1) := by decide +kernel
theorem dX3_whyOf_1 : decode cX3_whyOf 1 = .ok (.iload_n 1, 1) := by decide +kernel
theorem dX3_whyOf_2 : decode cX3_whyOf 2 = .ok (.iconst 5, 1) := by decide +kernel
theorem dX3_whyOf_3 : decode cX3_whyOf 3 = .ok (.invokestatic 48, 3) := by decide +kernel
theorem dX3_whyOf_6 : decode cX3_whyOf 6 = .ok (.iconst 1, 1) := by decide +kernel
theorem dX3_whyOf_7 : decode cX3_whyOf 7 = .ok (.if_icmp .ne 7, 3) := by decide +kernel
theorem dX3_whyOf_10 : decode cX3_whyOf 10 = .ok (.iconst 4, 1) := by decide +kernel
theorem dX3_whyOf_11 : decode cX3_whyOf 11 = .ok (.goto 8, 3) := by decide +kernel
theorem dX3_whyOf_14 : decode cX3_whyOf 14 = .ok (.aload_n 0, 1) := by decide +kernel
theorem dX3_whyOf_15 : decode cX3_whyOf 15 = .ok (.iload_n 1, 1) := by decide +kernel
theorem dX3_whyOf_16 : decode cX3_whyOf 16 = .ok (.invokestatic 83, 3) := by decide +kernel
theorem dX3_whyOf_19 : decode cX3_whyOf 19 = .ok (.ireturn, 1) := by decide +kernel
theorem dX3_why_0 : decode cX3_why 0 = .ok (.aload_n 0, 1) := by decide +kernel
theorem dX3_why_1 : decode cX3_why 1 = .ok (.aload_n 0, 1) := by decide +kernel
theorem dX3_why_2 : decode cX3_why 2 = .ok (.getfield 13, 3) := by decide +kernel
theorem dX3_why_5 : decode cX3_why 5 = .ok (.iload_n 1, 1) := by decide +kernel
theorem dX3_why_6 : decode cX3_why 6 = .ok (.invokestatic 44, 3) := by decide +kernel
theorem dX3_why_9 : decode cX3_why 9 = .ok (.ifCond .eq 7, 3) := by decide +kernel
theorem dX3_why_12 : decode cX3_why 12 = .ok (.iconst 0, 1) := by decide +kernel
theorem dX3_why_13 : decode cX3_why 13 = .ok (.goto 4, 3) := by decide +kernel
theorem dX3_why_16 : decode cX3_why 16 = .ok (.iconst 1, 1) := by decide +kernel
theorem dX3_why_17 : decode cX3_why 17 = .ok (.invokevirtual 130, 3) := by decide +kernel
theorem dX3_why_20 : decode cX3_why 20 = .ok (.ifCond .eq 5, 3) := by decide +kernel
theorem dX3_why_23 : decode cX3_why 23 = .ok (.iconst 0, 1) := by decide +kernel
theorem dX3_why_24 : decode cX3_why 24 = .ok (.ireturn, 1) := by decide +kernel
theorem dX3_why_25 : decode cX3_why 25 = .ok (.aload_n 0, 1) := by decide +kernel
theorem dX3_why_26 : decode cX3_why 26 = .ok (.getfield 13, 3) := by decide +kernel
theorem dX3_why_29 : decode cX3_why 29 = .ok (.iload_n 1, 1) := by decide +kernel
theorem dX3_why_30 : decode cX3_why 30 = .ok (.invokestatic 201, 3) := by decide +kernel
theorem dX3_why_33 : decode cX3_why 33 = .ok (.ireturn, 1) := by decide +kernel
theorem dX3_setting_0 : decode cX3_setting 0 = .ok (.aload_n 0, 1) := by decide +kernel
theorem dX3_setting_1 : decode cX3_setting 1 = .ok (.iload_n 1, 1) := by decide +kernel
theorem dX3_setting_2 : decode cX3_setting 2 = .ok (.i2l, 1) := by decide +kernel
theorem dX3_setting_3 : decode cX3_setting 3 = .ok (.lconst 0, 1) := by decide +kernel
theorem dX3_setting_4 : decode cX3_setting 4 = .ok (.ldc2_w 110, 3) := by decide +kernel
theorem dX3_setting_7 : decode cX3_setting 7 = .ok (.invokestatic 40, 3) := by decide +kernel
theorem dX3_setting_10 : decode cX3_setting 10 = .ok (.ifCond .eq 7, 3) := by decide +kernel
theorem dX3_setting_13 : decode cX3_setting 13 = .ok (.iconst 0, 1) := by decide +kernel
theorem dX3_setting_14 : decode cX3_setting 14 = .ok (.goto 4, 3) := by decide +kernel
theorem dX3_setting_17 : decode cX3_setting 17 = .ok (.iconst 1, 1) := by decide +kernel
theorem dX3_setting_18 : decode cX3_setting 18 = .ok (.invokevirtual 130, 3) := by decide +kernel
theorem dX3_setting_21 : decode cX3_setting 21 = .ok (.ifCond .eq 5, 3) := by decide +kernel
theorem dX3_setting_24 : decode cX3_setting 24 = .ok (.iconst 0, 1) := by decide +kernel
theorem dX3_setting_25 : decode cX3_setting 25 = .ok (.ireturn, 1) := by decide +kernel
theorem dX3_setting_26 : decode cX3_setting 26 = .ok (.aload_n 0, 1) := by decide +kernel
theorem dX3_setting_27 : decode cX3_setting 27 = .ok (.getfield 13, 3) := by decide +kernel
theorem dX3_setting_30 : decode cX3_setting 30 = .ok (.bipush 7, 2) := by decide +kernel
theorem dX3_setting_32 : decode cX3_setting 32 = .ok (.iload_n 1, 1) := by decide +kernel
theorem dX3_setting_33 : decode cX3_setting 33 = .ok (.iadd, 1) := by decide +kernel
theorem dX3_setting_34 : decode cX3_setting 34 = .ok (.iaload, 1) := by decide +kernel
theorem dX3_setting_35 : decode cX3_setting 35 = .ok (.ireturn, 1) := by decide +kernel
theorem dX3_remember_0 : decode cX3_remember 0 = .ok (.aload_n 0, 1) := by decide +kernel
theorem dX3_remember_1 : decode cX3_remember 1 = .ok (.getfield 191, 3) := by decide +kernel
theorem dX3_remember_4 : decode cX3_remember 4 = .ok (.bipush 14, 2) := by decide +kernel
theorem dX3_remember_6 : decode cX3_remember 6 = .ok (.if_icmp .ne 43, 3) := by decide +kernel
theorem dX3_remember_9 : decode cX3_remember 9 = .ok (.iconst 0, 1) := by decide +kernel
theorem dX3_remember_10 : decode cX3_remember 10 = .ok (.istore_n 1, 1) := by decide +kernel
theorem dX3_remember_11 : decode cX3_remember 11 = .ok (.iload_n 1, 1) := by decide +kernel
theorem dX3_remember_12 : decode cX3_remember 12 = .ok (.sipush 1573, 3) := by decide +kernel
theorem dX3_remember_15 : decode cX3_remember 15 = .ok (.if_icmp .ge 24, 3) := by decide +kernel
theorem dX3_remember_18 : decode cX3_remember 18 = .ok (.aload_n 0, 1) := by decide +kernel
theorem dX3_remember_19 : decode cX3_remember 19 = .ok (.getfield 19, 3) := by decide +kernel
theorem dX3_remember_22 : decode cX3_remember 22 = .ok (.iload_n 1, 1) := by decide +kernel
theorem dX3_remember_23 : decode cX3_remember 23 = .ok (.aload_n 0, 1) := by decide +kernel
theorem dX3_remember_24 : decode cX3_remember 24 = .ok (.getfield 19, 3) := by decide +kernel
theorem dX3_remember_27 : decode cX3_remember 27 = .ok (.iload_n 1, 1) := by decide +kernel
theorem dX3_remember_28 : decode cX3_remember 28 = .ok (.bipush 121, 2) := by decide +kernel
theorem dX3_remember_30 : decode cX3_remember 30 = .ok (.iadd, 1) := by decide +kernel
theorem dX3_remember_31 : decode cX3_remember 31 = .ok (.iaload, 1) := by decide +kernel
theorem dX3_remember_32 : decode cX3_remember 32 = .ok (.iastore, 1) := by decide +kernel
theorem dX3_remember_33 : decode cX3_remember 33 = .ok (.iinc 1 1, 3) := by decide +kernel
theorem dX3_remember_36 : decode cX3_remember 36 = .ok (.goto (-25), 3) := by decide +kernel
theorem dX3_remember_39 : decode cX3_remember 39 = .ok (.aload_n 0, 1) := by decide +kernel
theorem dX3_remember_40 : decode cX3_remember 40 = .ok (.dup, 1) := by decide +kernel
theorem dX3_remember_41 : decode cX3_remember 41 = .ok (.getfield 191, 3) := by decide +kernel
theorem dX3_remember_44 : decode cX3_remember 44 = .ok (.iconst 1, 1) := by decide +kernel
theorem dX3_remember_45 : decode cX3_remember 45 = .ok (.isub, 1) := by decide +kernel
theorem dX3_remember_46 : decode cX3_remember 46 = .ok (.putfield 191, 3) := by decide +kernel
theorem dX3_remember_49 : decode cX3_remember 49 = .ok (.aload_n 0, 1) := by decide +kernel
theorem dX3_remember_50 : decode cX3_remember 50 = .ok (.getfield 13, 3) := by decide +kernel
theorem dX3_remember_53 : decode cX3_remember 53 = .ok (.iconst 0, 1) := by decide +kernel
theorem dX3_remember_54 : decode cX3_remember 54 = .ok (.aload_n 0, 1) := by decide +kernel
theorem dX3_remember_55 : decode cX3_remember 55 = .ok (.getfield 19, 3) := by decide +kernel
theorem dX3_remember_58 : decode cX3_remember 58 = .ok (.bipush 121, 2) := by decide +kernel
theorem dX3_remember_60 : decode cX3_remember 60 = .ok (.aload_n 0, 1) := by decide +kernel
theorem dX3_remember_61 : decode cX3_remember 61 = .ok (.getfield 191, 3) := by decide +kernel
theorem dX3_remember_64 : decode cX3_remember 64 = .ok (.imul, 1) := by decide +kernel
theorem dX3_remember_65 : decode cX3_remember 65 = .ok (.invokestatic 187, 3) := by decide +kernel
theorem dX3_remember_68 : decode cX3_remember 68 = .ok (.aload_n 0, 1) := by decide +kernel
theorem dX3_remember_69 : decode cX3_remember 69 = .ok (.dup, 1) := by decide +kernel
theorem dX3_remember_70 : decode cX3_remember 70 = .ok (.getfield 191, 3) := by decide +kernel
theorem dX3_remember_73 : decode cX3_remember 73 = .ok (.iconst 1, 1) := by decide +kernel
theorem dX3_remember_74 : decode cX3_remember 74 = .ok (.iadd, 1) := by decide +kernel
theorem dX3_remember_75 : decode cX3_remember 75 = .ok (.putfield 191, 3) := by decide +kernel
theorem dX3_remember_78 : decode cX3_remember 78 = .ok (.return_, 1) := by decide +kernel
theorem dX3_lane_0 : decode cX3_lane 0 = .ok (.aload_n 0, 1) := by decide +kernel
theorem dX3_lane_1 : decode cX3_lane 1 = .ok (.aload_n 0, 1) := by decide +kernel
theorem dX3_lane_2 : decode cX3_lane 2 = .ok (.getfield 13, 3) := by decide +kernel
theorem dX3_lane_5 : decode cX3_lane 5 = .ok (.iconst 0, 1) := by decide +kernel
theorem dX3_lane_6 : decode cX3_lane 6 = .ok (.iaload, 1) := by decide +kernel
theorem dX3_lane_7 : decode cX3_lane 7 = .ok (.iconst 3, 1) := by decide +kernel
theorem dX3_lane_8 : decode cX3_lane 8 = .ok (.if_icmp .ge 7, 3) := by decide +kernel
theorem dX3_lane_11 : decode cX3_lane 11 = .ok (.iconst 0, 1) := by decide +kernel
theorem dX3_lane_12 : decode cX3_lane 12 = .ok (.goto 4, 3) := by decide +kernel
theorem dX3_lane_15 : decode cX3_lane 15 = .ok (.iconst 1, 1) := by decide +kernel
theorem dX3_lane_16 : decode cX3_lane 16 = .ok (.invokevirtual 130, 3) := by decide +kernel
theorem dX3_lane_19 : decode cX3_lane 19 = .ok (.ifCond .eq 5, 3) := by decide +kernel
theorem dX3_lane_22 : decode cX3_lane 22 = .ok (.iconst 0, 1) := by decide +kernel
theorem dX3_lane_23 : decode cX3_lane 23 = .ok (.ireturn, 1) := by decide +kernel
theorem dX3_lane_24 : decode cX3_lane 24 = .ok (.aload_n 0, 1) := by decide +kernel
theorem dX3_lane_25 : decode cX3_lane 25 = .ok (.invokevirtual 204, 3) := by decide +kernel
theorem dX3_lane_28 : decode cX3_lane 28 = .ok (.aload_n 0, 1) := by decide +kernel
theorem dX3_lane_29 : decode cX3_lane 29 = .ok (.getfield 13, 3) := by decide +kernel
theorem dX3_lane_32 : decode cX3_lane 32 = .ok (.invokestatic 145, 3) := by decide +kernel
theorem dX3_lane_35 : decode cX3_lane 35 = .ok (.ireturn, 1) := by decide +kernel
theorem dX3_arrive_0 : decode cX3_arrive 0 = .ok (.aload_n 0, 1) := by decide +kernel
theorem dX3_arrive_1 : decode cX3_arrive 1 = .ok (.aload_n 0, 1) := by decide +kernel
theorem dX3_arrive_2 : decode cX3_arrive 2 = .ok (.getfield 13, 3) := by decide +kernel
theorem dX3_arrive_5 : decode cX3_arrive 5 = .ok (.iload_n 1, 1) := by decide +kernel
theorem dX3_arrive_6 : decode cX3_arrive 6 = .ok (.invokestatic 44, 3) := by decide +kernel
theorem dX3_arrive_9 : decode cX3_arrive 9 = .ok (.ifCond .ne 7, 3) := by decide +kernel
theorem dX3_arrive_12 : decode cX3_arrive 12 = .ok (.iconst 1, 1) := by decide +kernel
theorem dX3_arrive_13 : decode cX3_arrive 13 = .ok (.goto 31, 3) := by decide +kernel
theorem dX3_arrive_16 : decode cX3_arrive 16 = .ok (.iload_n 2, 1) := by decide +kernel
theorem dX3_arrive_17 : decode cX3_arrive 17 = .ok (.invokestatic 114, 3) := by decide +kernel
theorem dX3_arrive_20 : decode cX3_arrive 20 = .ok (.ifCond .ne 7, 3) := by decide +kernel
theorem dX3_arrive_23 : decode cX3_arrive 23 = .ok (.iconst 2, 1) := by decide +kernel
theorem dX3_arrive_24 : decode cX3_arrive 24 = .ok (.goto 20, 3) := by decide +kernel
theorem dX3_arrive_27 : decode cX3_arrive 27 = .ok (.aload_n 0, 1) := by decide +kernel
theorem dX3_arrive_28 : decode cX3_arrive 28 = .ok (.getfield 13, 3) := by decide +kernel
theorem dX3_arrive_31 : decode cX3_arrive 31 = .ok (.iload_n 1, 1) := by decide +kernel
theorem dX3_arrive_32 : decode cX3_arrive 32 = .ok (.iload_n 2, 1) := by decide +kernel
theorem dX3_arrive_33 : decode cX3_arrive 33 = .ok (.invokestatic 160, 3) := by decide +kernel
theorem dX3_arrive_36 : decode cX3_arrive 36 = .ok (.ifCond .eq 7, 3) := by decide +kernel
theorem dX3_arrive_39 : decode cX3_arrive 39 = .ok (.iconst 0, 1) := by decide +kernel
theorem dX3_arrive_40 : decode cX3_arrive 40 = .ok (.goto 4, 3) := by decide +kernel
theorem dX3_arrive_43 : decode cX3_arrive 43 = .ok (.iconst 3, 1) := by decide +kernel
theorem dX3_arrive_44 : decode cX3_arrive 44 = .ok (.invokevirtual 130, 3) := by decide +kernel
theorem dX3_arrive_47 : decode cX3_arrive 47 = .ok (.ifCond .eq 5, 3) := by decide +kernel
theorem dX3_arrive_50 : decode cX3_arrive 50 = .ok (.iconst 0, 1) := by decide +kernel
theorem dX3_arrive_51 : decode cX3_arrive 51 = .ok (.ireturn, 1) := by decide +kernel
theorem dX3_arrive_52 : decode cX3_arrive 52 = .ok (.aload_n 0, 1) := by decide +kernel
theorem dX3_arrive_53 : decode cX3_arrive 53 = .ok (.invokevirtual 204, 3) := by decide +kernel
theorem dX3_arrive_56 : decode cX3_arrive 56 = .ok (.aload_n 0, 1) := by decide +kernel
theorem dX3_arrive_57 : decode cX3_arrive 57 = .ok (.getfield 13, 3) := by decide +kernel
theorem dX3_arrive_60 : decode cX3_arrive 60 = .ok (.iload_n 1, 1) := by decide +kernel
theorem dX3_arrive_61 : decode cX3_arrive 61 = .ok (.iload_n 2, 1) := by decide +kernel
theorem dX3_arrive_62 : decode cX3_arrive 62 = .ok (.iload_n 3, 1) := by decide +kernel
theorem dX3_arrive_63 : decode cX3_arrive 63 = .ok (.iload 4, 2) := by decide +kernel
theorem dX3_arrive_65 : decode cX3_arrive 65 = .ok (.invokestatic 163, 3) := by decide +kernel
theorem dX3_arrive_68 : decode cX3_arrive 68 = .ok (.ireturn, 1) := by decide +kernel
theorem dX3_loop_0 : decode cX3_loop 0 = .ok (.aload_n 0, 1) := by decide +kernel
theorem dX3_loop_1 : decode cX3_loop 1 = .ok (.aload_n 0, 1) := by decide +kernel
theorem dX3_loop_2 : decode cX3_loop 2 = .ok (.getfield 13, 3) := by decide +kernel
theorem dX3_loop_5 : decode cX3_loop 5 = .ok (.iload_n 1, 1) := by decide +kernel
theorem dX3_loop_6 : decode cX3_loop 6 = .ok (.invokestatic 44, 3) := by decide +kernel
theorem dX3_loop_9 : decode cX3_loop 9 = .ok (.ifCond .eq 7, 3) := by decide +kernel
theorem dX3_loop_12 : decode cX3_loop 12 = .ok (.iconst 0, 1) := by decide +kernel
theorem dX3_loop_13 : decode cX3_loop 13 = .ok (.goto 4, 3) := by decide +kernel
theorem dX3_loop_16 : decode cX3_loop 16 = .ok (.iconst 1, 1) := by decide +kernel
theorem dX3_loop_17 : decode cX3_loop 17 = .ok (.invokevirtual 130, 3) := by decide +kernel
theorem dX3_loop_20 : decode cX3_loop 20 = .ok (.ifCond .eq 5, 3) := by decide +kernel
theorem dX3_loop_23 : decode cX3_loop 23 = .ok (.iconst 0, 1) := by decide +kernel
theorem dX3_loop_24 : decode cX3_loop 24 = .ok (.ireturn, 1) := by decide +kernel
theorem dX3_loop_25 : decode cX3_loop 25 = .ok (.aload_n 0, 1) := by decide +kernel
theorem dX3_loop_26 : decode cX3_loop 26 = .ok (.invokevirtual 204, 3) := by decide +kernel
theorem dX3_loop_29 : decode cX3_loop 29 = .ok (.aload_n 0, 1) := by decide +kernel
theorem dX3_loop_30 : decode cX3_loop 30 = .ok (.getfield 13, 3) := by decide +kernel
theorem dX3_loop_33 : decode cX3_loop 33 = .ok (.iload_n 1, 1) := by decide +kernel
theorem dX3_loop_34 : decode cX3_loop 34 = .ok (.iload_n 2, 1) := by decide +kernel
theorem dX3_loop_35 : decode cX3_loop 35 = .ok (.invokestatic 167, 3) := by decide +kernel
theorem dX3_loop_38 : decode cX3_loop 38 = .ok (.ireturn, 1) := by decide +kernel
theorem dX3_mend_0 : decode cX3_mend 0 = .ok (.aload_n 0, 1) := by decide +kernel
theorem dX3_mend_1 : decode cX3_mend 1 = .ok (.aload_n 0, 1) := by decide +kernel
theorem dX3_mend_2 : decode cX3_mend 2 = .ok (.getfield 13, 3) := by decide +kernel
theorem dX3_mend_5 : decode cX3_mend 5 = .ok (.iload_n 1, 1) := by decide +kernel
theorem dX3_mend_6 : decode cX3_mend 6 = .ok (.invokestatic 44, 3) := by decide +kernel
theorem dX3_mend_9 : decode cX3_mend 9 = .ok (.ifCond .ne 7, 3) := by decide +kernel
theorem dX3_mend_12 : decode cX3_mend 12 = .ok (.iconst 1, 1) := by decide +kernel
theorem dX3_mend_13 : decode cX3_mend 13 = .ok (.goto 19, 3) := by decide +kernel
theorem dX3_mend_16 : decode cX3_mend 16 = .ok (.aload_n 0, 1) := by decide +kernel
theorem dX3_mend_17 : decode cX3_mend 17 = .ok (.getfield 13, 3) := by decide +kernel
theorem dX3_mend_20 : decode cX3_mend 20 = .ok (.iload_n 1, 1) := by decide +kernel
theorem dX3_mend_21 : decode cX3_mend 21 = .ok (.invokestatic 171, 3) := by decide +kernel
theorem dX3_mend_24 : decode cX3_mend 24 = .ok (.ifCond .eq 7, 3) := by decide +kernel
theorem dX3_mend_27 : decode cX3_mend 27 = .ok (.iconst 0, 1) := by decide +kernel
theorem dX3_mend_28 : decode cX3_mend 28 = .ok (.goto 4, 3) := by decide +kernel
theorem dX3_mend_31 : decode cX3_mend 31 = .ok (.iconst 2, 1) := by decide +kernel
theorem dX3_mend_32 : decode cX3_mend 32 = .ok (.invokevirtual 130, 3) := by decide +kernel
theorem dX3_mend_35 : decode cX3_mend 35 = .ok (.ifCond .eq 5, 3) := by decide +kernel
theorem dX3_mend_38 : decode cX3_mend 38 = .ok (.iconst 0, 1) := by decide +kernel
theorem dX3_mend_39 : decode cX3_mend 39 = .ok (.ireturn, 1) := by decide +kernel
theorem dX3_mend_40 : decode cX3_mend 40 = .ok (.aload_n 0, 1) := by decide +kernel
theorem dX3_mend_41 : decode cX3_mend 41 = .ok (.invokevirtual 204, 3) := by decide +kernel
theorem dX3_mend_44 : decode cX3_mend 44 = .ok (.aload_n 0, 1) := by decide +kernel
theorem dX3_mend_45 : decode cX3_mend 45 = .ok (.getfield 13, 3) := by decide +kernel
theorem dX3_mend_48 : decode cX3_mend 48 = .ok (.iload_n 1, 1) := by decide +kernel
theorem dX3_mend_49 : decode cX3_mend 49 = .ok (.invokestatic 174, 3) := by decide +kernel
theorem dX3_mend_52 : decode cX3_mend 52 = .ok (.ireturn, 1) := by decide +kernel
theorem dX3_run_0 : decode cX3_run 0 = .ok (.aload_n 0, 1) := by decide +kernel
theorem dX3_run_1 : decode cX3_run 1 = .ok (.iload_n 1, 1) := by decide +kernel
theorem dX3_run_2 : decode cX3_run 2 = .ok (.i2l, 1) := by decide +kernel
theorem dX3_run_3 : decode cX3_run 3 = .ok (.lconst 1, 1) := by decide +kernel
theorem dX3_run_4 : decode cX3_run 4 = .ok (.ldc2_w 123, 3) := by decide +kernel
theorem dX3_run_7 : decode cX3_run 7 = .ok (.invokestatic 40, 3) := by decide +kernel
theorem dX3_run_10 : decode cX3_run 10 = .ok (.ifCond .eq 7, 3) := by decide +kernel
theorem dX3_run_13 : decode cX3_run 13 = .ok (.iconst 0, 1) := by decide +kernel
theorem dX3_run_14 : decode cX3_run 14 = .ok (.goto 4, 3) := by decide +kernel
theorem dX3_run_17 : decode cX3_run 17 = .ok (.iconst 1, 1) := by decide +kernel
theorem dX3_run_18 : decode cX3_run 18 = .ok (.invokevirtual 130, 3) := by decide +kernel
theorem dX3_run_21 : decode cX3_run 21 = .ok (.ifCond .eq 5, 3) := by decide +kernel
theorem dX3_run_24 : decode cX3_run 24 = .ok (.iconst 0, 1) := by decide +kernel
theorem dX3_run_25 : decode cX3_run 25 = .ok (.ireturn, 1) := by decide +kernel
theorem dX3_run_26 : decode cX3_run 26 = .ok (.aload_n 0, 1) := by decide +kernel
theorem dX3_run_27 : decode cX3_run 27 = .ok (.invokevirtual 204, 3) := by decide +kernel
theorem dX3_run_30 : decode cX3_run 30 = .ok (.aload_n 0, 1) := by decide +kernel
theorem dX3_run_31 : decode cX3_run 31 = .ok (.aload_n 0, 1) := by decide +kernel
theorem dX3_run_32 : decode cX3_run 32 = .ok (.getfield 13, 3) := by decide +kernel
theorem dX3_run_35 : decode cX3_run 35 = .ok (.iload_n 1, 1) := by decide +kernel
theorem dX3_run_36 : decode cX3_run 36 = .ok (.invokevirtual 177, 3) := by decide +kernel
theorem dX3_run_39 : decode cX3_run 39 = .ok (.ireturn, 1) := by decide +kernel
theorem dX3_set_0 : decode cX3_set 0 = .ok (.aload_n 0, 1) := by decide +kernel
theorem dX3_set_1 : decode cX3_set 1 = .ok (.iload_n 1, 1) := by decide +kernel
theorem dX3_set_2 : decode cX3_set 2 = .ok (.iload_n 2, 1) := by decide +kernel
theorem dX3_set_3 : decode cX3_set 3 = .ok (.invokestatic 207, 3) := by decide +kernel
theorem dX3_set_6 : decode cX3_set 6 = .ok (.ifCond .eq 7, 3) := by decide +kernel
theorem dX3_set_9 : decode cX3_set 9 = .ok (.iconst 0, 1) := by decide +kernel
theorem dX3_set_10 : decode cX3_set 10 = .ok (.goto 4, 3) := by decide +kernel
theorem dX3_set_13 : decode cX3_set 13 = .ok (.iconst 1, 1) := by decide +kernel
theorem dX3_set_14 : decode cX3_set 14 = .ok (.invokevirtual 130, 3) := by decide +kernel
theorem dX3_set_17 : decode cX3_set 17 = .ok (.ifCond .eq 5, 3) := by decide +kernel
theorem dX3_set_20 : decode cX3_set 20 = .ok (.iconst 0, 1) := by decide +kernel
theorem dX3_set_21 : decode cX3_set 21 = .ok (.ireturn, 1) := by decide +kernel
theorem dX3_set_22 : decode cX3_set 22 = .ok (.aload_n 0, 1) := by decide +kernel
theorem dX3_set_23 : decode cX3_set 23 = .ok (.invokevirtual 204, 3) := by decide +kernel
theorem dX3_set_26 : decode cX3_set 26 = .ok (.aload_n 0, 1) := by decide +kernel
theorem dX3_set_27 : decode cX3_set 27 = .ok (.getfield 13, 3) := by decide +kernel
theorem dX3_set_30 : decode cX3_set 30 = .ok (.bipush 7, 2) := by decide +kernel
theorem dX3_set_32 : decode cX3_set 32 = .ok (.iload_n 1, 1) := by decide +kernel
theorem dX3_set_33 : decode cX3_set 33 = .ok (.iadd, 1) := by decide +kernel
theorem dX3_set_34 : decode cX3_set 34 = .ok (.iaload, 1) := by decide +kernel
theorem dX3_set_35 : decode cX3_set 35 = .ok (.istore_n 3, 1) := by decide +kernel
theorem dX3_set_36 : decode cX3_set 36 = .ok (.aload_n 0, 1) := by decide +kernel
theorem dX3_set_37 : decode cX3_set 37 = .ok (.getfield 13, 3) := by decide +kernel
theorem dX3_set_40 : decode cX3_set 40 = .ok (.bipush 7, 2) := by decide +kernel
theorem dX3_set_42 : decode cX3_set 42 = .ok (.iload_n 1, 1) := by decide +kernel
theorem dX3_set_43 : decode cX3_set 43 = .ok (.iadd, 1) := by decide +kernel
theorem dX3_set_44 : decode cX3_set 44 = .ok (.iload_n 2, 1) := by decide +kernel
theorem dX3_set_45 : decode cX3_set 45 = .ok (.iastore, 1) := by decide +kernel
theorem dX3_set_46 : decode cX3_set 46 = .ok (.iload_n 3, 1) := by decide +kernel
theorem dX3_set_47 : decode cX3_set 47 = .ok (.ireturn, 1) := by decide +kernel
theorem dX3_undo_0 : decode cX3_undo 0 = .ok (.aload_n 0, 1) := by decide +kernel
theorem dX3_undo_1 : decode cX3_undo 1 = .ok (.aload_n 0, 1) := by decide +kernel
theorem dX3_undo_2 : decode cX3_undo 2 = .ok (.getfield 191, 3) := by decide +kernel
theorem dX3_undo_5 : decode cX3_undo 5 = .ok (.ifCond .ne 7, 3) := by decide +kernel
theorem dX3_undo_8 : decode cX3_undo 8 = .ok (.iconst 1, 1) := by decide +kernel
theorem dX3_undo_9 : decode cX3_undo 9 = .ok (.goto 4, 3) := by decide +kernel
theorem dX3_undo_12 : decode cX3_undo 12 = .ok (.iconst 0, 1) := by decide +kernel
theorem dX3_undo_13 : decode cX3_undo 13 = .ok (.invokevirtual 130, 3) := by decide +kernel
theorem dX3_undo_16 : decode cX3_undo 16 = .ok (.ifCond .eq 5, 3) := by decide +kernel
theorem dX3_undo_19 : decode cX3_undo 19 = .ok (.iconst 0, 1) := by decide +kernel
theorem dX3_undo_20 : decode cX3_undo 20 = .ok (.ireturn, 1) := by decide +kernel
theorem dX3_undo_21 : decode cX3_undo 21 = .ok (.aload_n 0, 1) := by decide +kernel
theorem dX3_undo_22 : decode cX3_undo 22 = .ok (.dup, 1) := by decide +kernel
theorem dX3_undo_23 : decode cX3_undo 23 = .ok (.getfield 191, 3) := by decide +kernel
theorem dX3_undo_26 : decode cX3_undo 26 = .ok (.iconst 1, 1) := by decide +kernel
theorem dX3_undo_27 : decode cX3_undo 27 = .ok (.isub, 1) := by decide +kernel
theorem dX3_undo_28 : decode cX3_undo 28 = .ok (.putfield 191, 3) := by decide +kernel
theorem dX3_undo_31 : decode cX3_undo 31 = .ok (.aload_n 0, 1) := by decide +kernel
theorem dX3_undo_32 : decode cX3_undo 32 = .ok (.getfield 19, 3) := by decide +kernel
theorem dX3_undo_35 : decode cX3_undo 35 = .ok (.bipush 121, 2) := by decide +kernel
theorem dX3_undo_37 : decode cX3_undo 37 = .ok (.aload_n 0, 1) := by decide +kernel
theorem dX3_undo_38 : decode cX3_undo 38 = .ok (.getfield 191, 3) := by decide +kernel
theorem dX3_undo_41 : decode cX3_undo 41 = .ok (.imul, 1) := by decide +kernel
theorem dX3_undo_42 : decode cX3_undo 42 = .ok (.aload_n 0, 1) := by decide +kernel
theorem dX3_undo_43 : decode cX3_undo 43 = .ok (.getfield 13, 3) := by decide +kernel
theorem dX3_undo_46 : decode cX3_undo 46 = .ok (.iconst 0, 1) := by decide +kernel
theorem dX3_undo_47 : decode cX3_undo 47 = .ok (.invokestatic 187, 3) := by decide +kernel
theorem dX3_undo_50 : decode cX3_undo 50 = .ok (.aload_n 0, 1) := by decide +kernel
theorem dX3_undo_51 : decode cX3_undo 51 = .ok (.getfield 191, 3) := by decide +kernel
theorem dX3_undo_54 : decode cX3_undo 54 = .ok (.ireturn, 1) := by decide +kernel
theorem dX3_emptyIn_0 : decode cX3_emptyIn 0 = .ok (.aload_n 0, 1) := by decide +kernel
theorem dX3_emptyIn_1 : decode cX3_emptyIn 1 = .ok (.aload_n 0, 1) := by decide +kernel
theorem dX3_emptyIn_2 : decode cX3_emptyIn 2 = .ok (.getfield 13, 3) := by decide +kernel
theorem dX3_emptyIn_5 : decode cX3_emptyIn 5 = .ok (.iload_n 1, 1) := by decide +kernel
theorem dX3_emptyIn_6 : decode cX3_emptyIn 6 = .ok (.invokestatic 44, 3) := by decide +kernel
theorem dX3_emptyIn_9 : decode cX3_emptyIn 9 = .ok (.ifCond .eq 7, 3) := by decide +kernel
theorem dX3_emptyIn_12 : decode cX3_emptyIn 12 = .ok (.iconst 0, 1) := by decide +kernel
theorem dX3_emptyIn_13 : decode cX3_emptyIn 13 = .ok (.goto 4, 3) := by decide +kernel
theorem dX3_emptyIn_16 : decode cX3_emptyIn 16 = .ok (.iconst 1, 1) := by decide +kernel
theorem dX3_emptyIn_17 : decode cX3_emptyIn 17 = .ok (.invokevirtual 130, 3) := by decide +kernel
theorem dX3_emptyIn_20 : decode cX3_emptyIn 20 = .ok (.ifCond .eq 5, 3) := by decide +kernel
theorem dX3_emptyIn_23 : decode cX3_emptyIn 23 = .ok (.iconst 0, 1) := by decide +kernel
theorem dX3_emptyIn_24 : decode cX3_emptyIn 24 = .ok (.ireturn, 1) := by decide +kernel
theorem dX3_emptyIn_25 : decode cX3_emptyIn 25 = .ok (.aload_n 0, 1) := by decide +kernel
theorem dX3_emptyIn_26 : decode cX3_emptyIn 26 = .ok (.getfield 13, 3) := by decide +kernel
theorem dX3_emptyIn_29 : decode cX3_emptyIn 29 = .ok (.iconst 0, 1) := by decide +kernel
theorem dX3_emptyIn_30 : decode cX3_emptyIn 30 = .ok (.aload_n 0, 1) := by decide +kernel
theorem dX3_emptyIn_31 : decode cX3_emptyIn 31 = .ok (.getfield 16, 3) := by decide +kernel
theorem dX3_emptyIn_34 : decode cX3_emptyIn 34 = .ok (.iconst 0, 1) := by decide +kernel
theorem dX3_emptyIn_35 : decode cX3_emptyIn 35 = .ok (.invokestatic 187, 3) := by decide +kernel
theorem dX3_emptyIn_38 : decode cX3_emptyIn 38 = .ok (.iconst 0, 1) := by decide +kernel
theorem dX3_emptyIn_39 : decode cX3_emptyIn 39 = .ok (.istore_n 2, 1) := by decide +kernel
theorem dX3_emptyIn_40 : decode cX3_emptyIn 40 = .ok (.iload_n 2, 1) := by decide +kernel
theorem dX3_emptyIn_41 : decode cX3_emptyIn 41 = .ok (.sipush 400, 3) := by decide +kernel
theorem dX3_emptyIn_44 : decode cX3_emptyIn 44 = .ok (.if_icmp .gt 31, 3) := by decide +kernel
theorem dX3_emptyIn_47 : decode cX3_emptyIn 47 = .ok (.aload_n 0, 1) := by decide +kernel
theorem dX3_emptyIn_48 : decode cX3_emptyIn 48 = .ok (.getfield 16, 3) := by decide +kernel
theorem dX3_emptyIn_51 : decode cX3_emptyIn 51 = .ok (.iload_n 1, 1) := by decide +kernel
theorem dX3_emptyIn_52 : decode cX3_emptyIn 52 = .ok (.iconst 0, 1) := by decide +kernel
theorem dX3_emptyIn_53 : decode cX3_emptyIn 53 = .ok (.invokestatic 48, 3) := by decide +kernel
theorem dX3_emptyIn_56 : decode cX3_emptyIn 56 = .ok (.ifCond .ne 5, 3) := by decide +kernel
theorem dX3_emptyIn_59 : decode cX3_emptyIn 59 = .ok (.iload_n 2, 1) := by decide +kernel
theorem dX3_emptyIn_60 : decode cX3_emptyIn 60 = .ok (.ireturn, 1) := by decide +kernel
theorem dX3_emptyIn_61 : decode cX3_emptyIn 61 = .ok (.aload_n 0, 1) := by decide +kernel
theorem dX3_emptyIn_62 : decode cX3_emptyIn 62 = .ok (.aload_n 0, 1) := by decide +kernel
theorem dX3_emptyIn_63 : decode cX3_emptyIn 63 = .ok (.getfield 16, 3) := by decide +kernel
theorem dX3_emptyIn_66 : decode cX3_emptyIn 66 = .ok (.invokevirtual 107, 3) := by decide +kernel
theorem dX3_emptyIn_69 : decode cX3_emptyIn 69 = .ok (.iinc 2 1, 3) := by decide +kernel
theorem dX3_emptyIn_72 : decode cX3_emptyIn 72 = .ok (.goto (-32), 3) := by decide +kernel
theorem dX3_emptyIn_75 : decode cX3_emptyIn 75 = .ok (.iconst (-1), 1) := by decide +kernel
theorem dX3_emptyIn_76 : decode cX3_emptyIn 76 = .ok (.ireturn, 1) := by decide +kernel
theorem dX3_through_0 : decode cX3_through 0 = .ok (.iload_n 3, 1) := by decide +kernel
theorem dX3_through_1 : decode cX3_through 1 = .ok (.istore 4, 2) := by decide +kernel
theorem dX3_through_3 : decode cX3_through 3 = .ok (.iconst 0, 1) := by decide +kernel
theorem dX3_through_4 : decode cX3_through 4 = .ok (.istore 5, 2) := by decide +kernel
theorem dX3_through_6 : decode cX3_through 6 = .ok (.iload 5, 2) := by decide +kernel
theorem dX3_through_8 : decode cX3_through 8 = .ok (.sipush 400, 3) := by decide +kernel
theorem dX3_through_11 : decode cX3_through 11 = .ok (.if_icmp .gt 51, 3) := by decide +kernel
theorem dX3_through_14 : decode cX3_through 14 = .ok (.aload_n 1, 1) := by decide +kernel
theorem dX3_through_15 : decode cX3_through 15 = .ok (.iload_n 2, 1) := by decide +kernel
theorem dX3_through_16 : decode cX3_through 16 = .ok (.iload 4, 2) := by decide +kernel
theorem dX3_through_18 : decode cX3_through 18 = .ok (.invokestatic 60, 3) := by decide +kernel
theorem dX3_through_21 : decode cX3_through 21 = .ok (.bipush 20, 2) := by decide +kernel
theorem dX3_through_23 : decode cX3_through 23 = .ok (.if_icmp .le 6, 3) := by decide +kernel
theorem dX3_through_26 : decode cX3_through 26 = .ok (.iload 5, 2) := by decide +kernel
theorem dX3_through_28 : decode cX3_through 28 = .ok (.ireturn, 1) := by decide +kernel
theorem dX3_through_29 : decode cX3_through 29 = .ok (.aload_n 1, 1) := by decide +kernel
theorem dX3_through_30 : decode cX3_through 30 = .ok (.iload_n 2, 1) := by decide +kernel
theorem dX3_through_31 : decode cX3_through 31 = .ok (.iconst 0, 1) := by decide +kernel
theorem dX3_through_32 : decode cX3_through 32 = .ok (.invokestatic 48, 3) := by decide +kernel
theorem dX3_through_35 : decode cX3_through 35 = .ok (.istore 6, 2) := by decide +kernel
theorem dX3_through_37 : decode cX3_through 37 = .ok (.aload_n 0, 1) := by decide +kernel
theorem dX3_through_38 : decode cX3_through 38 = .ok (.aload_n 1, 1) := by decide +kernel
theorem dX3_through_39 : decode cX3_through 39 = .ok (.invokevirtual 107, 3) := by decide +kernel
theorem dX3_through_42 : decode cX3_through 42 = .ok (.iload 4, 2) := by decide +kernel
theorem dX3_through_44 : decode cX3_through 44 = .ok (.iload 6, 2) := by decide +kernel
theorem dX3_through_46 : decode cX3_through 46 = .ok (.aload_n 1, 1) := by decide +kernel
theorem dX3_through_47 : decode cX3_through 47 = .ok (.iload_n 2, 1) := by decide +kernel
theorem dX3_through_48 : decode cX3_through 48 = .ok (.iconst 0, 1) := by decide +kernel
theorem dX3_through_49 : decode cX3_through 49 = .ok (.invokestatic 48, 3) := by decide +kernel
theorem dX3_through_52 : decode cX3_through 52 = .ok (.isub, 1) := by decide +kernel
theorem dX3_through_53 : decode cX3_through 53 = .ok (.isub, 1) := by decide +kernel
theorem dX3_through_54 : decode cX3_through 54 = .ok (.istore 4, 2) := by decide +kernel
theorem dX3_through_56 : decode cX3_through 56 = .ok (.iinc 5 1, 3) := by decide +kernel
theorem dX3_through_59 : decode cX3_through 59 = .ok (.goto (-53), 3) := by decide +kernel
theorem dX3_through_62 : decode cX3_through 62 = .ok (.iconst (-1), 1) := by decide +kernel
theorem dX3_through_63 : decode cX3_through 63 = .ok (.ireturn, 1) := by decide +kernel
theorem dX3_throughIn_0 : decode cX3_throughIn 0 = .ok (.aload_n 0, 1) := by decide +kernel
theorem dX3_throughIn_1 : decode cX3_throughIn 1 = .ok (.aload_n 0, 1) := by decide +kernel
theorem dX3_throughIn_2 : decode cX3_throughIn 2 = .ok (.getfield 13, 3) := by decide +kernel
theorem dX3_throughIn_5 : decode cX3_throughIn 5 = .ok (.iload_n 1, 1) := by decide +kernel
theorem dX3_throughIn_6 : decode cX3_throughIn 6 = .ok (.iload_n 2, 1) := by decide +kernel
theorem dX3_throughIn_7 : decode cX3_throughIn 7 = .ok (.invokestatic 196, 3) := by decide +kernel
theorem dX3_throughIn_10 : decode cX3_throughIn 10 = .ok (.ifCond .eq 7, 3) := by decide +kernel
theorem dX3_throughIn_13 : decode cX3_throughIn 13 = .ok (.iconst 0, 1) := by decide +kernel
theorem dX3_throughIn_14 : decode cX3_throughIn 14 = .ok (.goto 4, 3) := by decide +kernel
theorem dX3_throughIn_17 : decode cX3_throughIn 17 = .ok (.iconst 1, 1) := by decide +kernel
theorem dX3_throughIn_18 : decode cX3_throughIn 18 = .ok (.invokevirtual 130, 3) := by decide +kernel
theorem dX3_throughIn_21 : decode cX3_throughIn 21 = .ok (.ifCond .eq 5, 3) := by decide +kernel
theorem dX3_throughIn_24 : decode cX3_throughIn 24 = .ok (.iconst 0, 1) := by decide +kernel
theorem dX3_throughIn_25 : decode cX3_throughIn 25 = .ok (.ireturn, 1) := by decide +kernel
theorem dX3_throughIn_26 : decode cX3_throughIn 26 = .ok (.aload_n 0, 1) := by decide +kernel
theorem dX3_throughIn_27 : decode cX3_throughIn 27 = .ok (.getfield 13, 3) := by decide +kernel
theorem dX3_throughIn_30 : decode cX3_throughIn 30 = .ok (.iconst 0, 1) := by decide +kernel
theorem dX3_throughIn_31 : decode cX3_throughIn 31 = .ok (.aload_n 0, 1) := by decide +kernel
theorem dX3_throughIn_32 : decode cX3_throughIn 32 = .ok (.getfield 16, 3) := by decide +kernel
theorem dX3_throughIn_35 : decode cX3_throughIn 35 = .ok (.iconst 0, 1) := by decide +kernel
theorem dX3_throughIn_36 : decode cX3_throughIn 36 = .ok (.invokestatic 187, 3) := by decide +kernel
theorem dX3_throughIn_39 : decode cX3_throughIn 39 = .ok (.aload_n 0, 1) := by decide +kernel
theorem dX3_throughIn_40 : decode cX3_throughIn 40 = .ok (.aload_n 0, 1) := by decide +kernel
theorem dX3_throughIn_41 : decode cX3_throughIn 41 = .ok (.getfield 16, 3) := by decide +kernel
theorem dX3_throughIn_44 : decode cX3_throughIn 44 = .ok (.iload_n 1, 1) := by decide +kernel
theorem dX3_throughIn_45 : decode cX3_throughIn 45 = .ok (.iload_n 2, 1) := by decide +kernel
theorem dX3_throughIn_46 : decode cX3_throughIn 46 = .ok (.invokevirtual 211, 3) := by decide +kernel
theorem dX3_throughIn_49 : decode cX3_throughIn 49 = .ok (.ireturn, 1) := by decide +kernel
theorem dX3_bestLane_0 : decode cX3_bestLane 0 = .ok (.aload_n 0, 1) := by decide +kernel
theorem dX3_bestLane_1 : decode cX3_bestLane 1 = .ok (.iload_n 1, 1) := by decide +kernel
theorem dX3_bestLane_2 : decode cX3_bestLane 2 = .ok (.invokestatic 114, 3) := by decide +kernel
theorem dX3_bestLane_5 : decode cX3_bestLane 5 = .ok (.ifCond .eq 7, 3) := by decide +kernel
theorem dX3_bestLane_8 : decode cX3_bestLane 8 = .ok (.iconst 0, 1) := by decide +kernel
theorem dX3_bestLane_9 : decode cX3_bestLane 9 = .ok (.goto 4, 3) := by decide +kernel
theorem dX3_bestLane_12 : decode cX3_bestLane 12 = .ok (.iconst 1, 1) := by decide +kernel
theorem dX3_bestLane_13 : decode cX3_bestLane 13 = .ok (.invokevirtual 130, 3) := by decide +kernel
theorem dX3_bestLane_16 : decode cX3_bestLane 16 = .ok (.ifCond .eq 5, 3) := by decide +kernel
theorem dX3_bestLane_19 : decode cX3_bestLane 19 = .ok (.iconst 0, 1) := by decide +kernel
theorem dX3_bestLane_20 : decode cX3_bestLane 20 = .ok (.ireturn, 1) := by decide +kernel
theorem dX3_bestLane_21 : decode cX3_bestLane 21 = .ok (.iconst (-1), 1) := by decide +kernel
theorem dX3_bestLane_22 : decode cX3_bestLane 22 = .ok (.istore_n 2, 1) := by decide +kernel
theorem dX3_bestLane_23 : decode cX3_bestLane 23 = .ok (.iconst 0, 1) := by decide +kernel
theorem dX3_bestLane_24 : decode cX3_bestLane 24 = .ok (.istore_n 3, 1) := by decide +kernel
theorem dX3_bestLane_25 : decode cX3_bestLane 25 = .ok (.iconst 0, 1) := by decide +kernel
theorem dX3_bestLane_26 : decode cX3_bestLane 26 = .ok (.istore 4, 2) := by decide +kernel
theorem dX3_bestLane_28 : decode cX3_bestLane 28 = .ok (.iload 4, 2) := by decide +kernel
theorem dX3_bestLane_30 : decode cX3_bestLane 30 = .ok (.aload_n 0, 1) := by decide +kernel
theorem dX3_bestLane_31 : decode cX3_bestLane 31 = .ok (.getfield 13, 3) := by decide +kernel
theorem dX3_bestLane_34 : decode cX3_bestLane 34 = .ok (.iconst 0, 1) := by decide +kernel
theorem dX3_bestLane_35 : decode cX3_bestLane 35 = .ok (.iaload, 1) := by decide +kernel
theorem dX3_bestLane_36 : decode cX3_bestLane 36 = .ok (.if_icmp .ge 111, 3) := by decide +kernel
theorem dX3_bestLane_39 : decode cX3_bestLane 39 = .ok (.aload_n 0, 1) := by decide +kernel
theorem dX3_bestLane_40 : decode cX3_bestLane 40 = .ok (.getfield 13, 3) := by decide +kernel
theorem dX3_bestLane_43 : decode cX3_bestLane 43 = .ok (.iload 4, 2) := by decide +kernel
theorem dX3_bestLane_45 : decode cX3_bestLane 45 = .ok (.iconst 0, 1) := by decide +kernel
theorem dX3_bestLane_46 : decode cX3_bestLane 46 = .ok (.invokestatic 48, 3) := by decide +kernel
theorem dX3_bestLane_49 : decode cX3_bestLane 49 = .ok (.bipush 6, 2) := by decide +kernel
theorem dX3_bestLane_51 : decode cX3_bestLane 51 = .ok (.if_icmp .ge 90, 3) := by decide +kernel
theorem dX3_bestLane_54 : decode cX3_bestLane 54 = .ok (.aload_n 0, 1) := by decide +kernel
theorem dX3_bestLane_55 : decode cX3_bestLane 55 = .ok (.getfield 13, 3) := by decide +kernel
theorem dX3_bestLane_58 : decode cX3_bestLane 58 = .ok (.iconst 0, 1) := by decide +kernel
theorem dX3_bestLane_59 : decode cX3_bestLane 59 = .ok (.aload_n 0, 1) := by decide +kernel
theorem dX3_bestLane_60 : decode cX3_bestLane 60 = .ok (.getfield 16, 3) := by decide +kernel
theorem dX3_bestLane_63 : decode cX3_bestLane 63 = .ok (.iconst 0, 1) := by decide +kernel
theorem dX3_bestLane_64 : decode cX3_bestLane 64 = .ok (.invokestatic 187, 3) := by decide +kernel
theorem dX3_bestLane_67 : decode cX3_bestLane 67 = .ok (.aload_n 0, 1) := by decide +kernel
theorem dX3_bestLane_68 : decode cX3_bestLane 68 = .ok (.aload_n 0, 1) := by decide +kernel
theorem dX3_bestLane_69 : decode cX3_bestLane 69 = .ok (.getfield 16, 3) := by decide +kernel
theorem dX3_bestLane_72 : decode cX3_bestLane 72 = .ok (.iload 4, 2) := by decide +kernel
theorem dX3_bestLane_74 : decode cX3_bestLane 74 = .ok (.aload_n 0, 1) := by decide +kernel
theorem dX3_bestLane_75 : decode cX3_bestLane 75 = .ok (.getfield 16, 3) := by decide +kernel
theorem dX3_bestLane_78 : decode cX3_bestLane 78 = .ok (.iload 4, 2) := by decide +kernel
theorem dX3_bestLane_80 : decode cX3_bestLane 80 = .ok (.iload_n 1, 1) := by decide +kernel
theorem dX3_bestLane_81 : decode cX3_bestLane 81 = .ok (.iconst 0, 1) := by decide +kernel
theorem dX3_bestLane_82 : decode cX3_bestLane 82 = .ok (.iconst 0, 1) := by decide +kernel
theorem dX3_bestLane_83 : decode cX3_bestLane 83 = .ok (.invokestatic 163, 3) := by decide +kernel
theorem dX3_bestLane_86 : decode cX3_bestLane 86 = .ok (.iconst 1, 1) := by decide +kernel
theorem dX3_bestLane_87 : decode cX3_bestLane 87 = .ok (.isub, 1) := by decide +kernel
theorem dX3_bestLane_88 : decode cX3_bestLane 88 = .ok (.invokevirtual 211, 3) := by decide +kernel
theorem dX3_bestLane_91 : decode cX3_bestLane 91 = .ok (.istore 5, 2) := by decide +kernel
theorem dX3_bestLane_93 : decode cX3_bestLane 93 = .ok (.iload 5, 2) := by decide +kernel
theorem dX3_bestLane_95 : decode cX3_bestLane 95 = .ok (.iconst (-1), 1) := by decide +kernel
theorem dX3_bestLane_96 : decode cX3_bestLane 96 = .ok (.if_icmp .eq 18, 3) := by decide +kernel
theorem dX3_bestLane_99 : decode cX3_bestLane 99 = .ok (.iload_n 2, 1) := by decide +kernel
theorem dX3_bestLane_100 : decode cX3_bestLane 100 = .ok (.iconst (-1), 1) := by decide +kernel
theorem dX3_bestLane_101 : decode cX3_bestLane 101 = .ok (.if_icmp .eq 9, 3) := by decide +kernel
theorem dX3_bestLane_104 : decode cX3_bestLane 104 = .ok (.iload 5, 2) := by decide +kernel
theorem dX3_bestLane_106 : decode cX3_bestLane 106 = .ok (.iload_n 3, 1) := by decide +kernel
theorem dX3_bestLane_107 : decode cX3_bestLane 107 = .ok (.if_icmp .ge 7, 3) := by decide +kernel
theorem dX3_bestLane_110 : decode cX3_bestLane 110 = .ok (.iconst 1, 1) := by decide +kernel
theorem dX3_bestLane_111 : decode cX3_bestLane 111 = .ok (.goto 4, 3) := by decide +kernel
theorem dX3_bestLane_114 : decode cX3_bestLane 114 = .ok (.iconst 0, 1) := by decide +kernel
theorem dX3_bestLane_115 : decode cX3_bestLane 115 = .ok (.istore 6, 2) := by decide +kernel
theorem dX3_bestLane_117 : decode cX3_bestLane 117 = .ok (.iload 6, 2) := by decide +kernel
theorem dX3_bestLane_119 : decode cX3_bestLane 119 = .ok (.ifCond .eq 8, 3) := by decide +kernel
theorem dX3_bestLane_122 : decode cX3_bestLane 122 = .ok (.iload 4, 2) := by decide +kernel
theorem dX3_bestLane_124 : decode cX3_bestLane 124 = .ok (.goto 4, 3) := by decide +kernel
theorem dX3_bestLane_127 : decode cX3_bestLane 127 = .ok (.iload_n 2, 1) := by decide +kernel
theorem dX3_bestLane_128 : decode cX3_bestLane 128 = .ok (.istore_n 2, 1) := by decide +kernel
theorem dX3_bestLane_129 : decode cX3_bestLane 129 = .ok (.iload 6, 2) := by decide +kernel
theorem dX3_bestLane_131 : decode cX3_bestLane 131 = .ok (.ifCond .eq 8, 3) := by decide +kernel
theorem dX3_bestLane_134 : decode cX3_bestLane 134 = .ok (.iload 5, 2) := by decide +kernel
theorem dX3_bestLane_136 : decode cX3_bestLane 136 = .ok (.goto 4, 3) := by decide +kernel
theorem dX3_bestLane_139 : decode cX3_bestLane 139 = .ok (.iload_n 3, 1) := by decide +kernel
theorem dX3_bestLane_140 : decode cX3_bestLane 140 = .ok (.istore_n 3, 1) := by decide +kernel
theorem dX3_bestLane_141 : decode cX3_bestLane 141 = .ok (.iinc 4 1, 3) := by decide +kernel
theorem dX3_bestLane_144 : decode cX3_bestLane 144 = .ok (.goto (-116), 3) := by decide +kernel
theorem dX3_bestLane_147 : decode cX3_bestLane 147 = .ok (.iload_n 2, 1) := by decide +kernel
theorem dX3_bestLane_148 : decode cX3_bestLane 148 = .ok (.ireturn, 1) := by decide +kernel
theorem dX3_coming_0 : decode cX3_coming 0 = .ok (.aload_n 0, 1) := by decide +kernel
theorem dX3_coming_1 : decode cX3_coming 1 = .ok (.iload_n 1, 1) := by decide +kernel
theorem dX3_coming_2 : decode cX3_coming 2 = .ok (.i2l, 1) := by decide +kernel
theorem dX3_coming_3 : decode cX3_coming 3 = .ok (.lconst 1, 1) := by decide +kernel
theorem dX3_coming_4 : decode cX3_coming 4 = .ok (.ldc2_w 214, 3) := by decide +kernel
theorem dX3_coming_7 : decode cX3_coming 7 = .ok (.invokestatic 40, 3) := by decide +kernel
theorem dX3_coming_10 : decode cX3_coming 10 = .ok (.ifCond .eq 19, 3) := by decide +kernel
theorem dX3_coming_13 : decode cX3_coming 13 = .ok (.iload_n 2, 1) := by decide +kernel
theorem dX3_coming_14 : decode cX3_coming 14 = .ok (.i2l, 1) := by decide +kernel
theorem dX3_coming_15 : decode cX3_coming 15 = .ok (.lconst 0, 1) := by decide +kernel
theorem dX3_coming_16 : decode cX3_coming 16 = .ok (.ldc2_w 199, 3) := by decide +kernel
theorem dX3_coming_19 : decode cX3_coming 19 = .ok (.invokestatic 40, 3) := by decide +kernel
theorem dX3_coming_22 : decode cX3_coming 22 = .ok (.ifCond .eq 7, 3) := by decide +kernel
theorem dX3_coming_25 : decode cX3_coming 25 = .ok (.iconst 0, 1) := by decide +kernel
theorem dX3_coming_26 : decode cX3_coming 26 = .ok (.goto 4, 3) := by decide +kernel
theorem dX3_coming_29 : decode cX3_coming 29 = .ok (.iconst 1, 1) := by decide +kernel
theorem dX3_coming_30 : decode cX3_coming 30 = .ok (.invokevirtual 130, 3) := by decide +kernel
theorem dX3_coming_33 : decode cX3_coming 33 = .ok (.ifCond .eq 5, 3) := by decide +kernel
theorem dX3_coming_36 : decode cX3_coming 36 = .ok (.iconst 0, 1) := by decide +kernel
theorem dX3_coming_37 : decode cX3_coming 37 = .ok (.ireturn, 1) := by decide +kernel
theorem dX3_coming_38 : decode cX3_coming 38 = .ok (.aload_n 0, 1) := by decide +kernel
theorem dX3_coming_39 : decode cX3_coming 39 = .ok (.getfield 13, 3) := by decide +kernel
theorem dX3_coming_42 : decode cX3_coming 42 = .ok (.iconst 0, 1) := by decide +kernel
theorem dX3_coming_43 : decode cX3_coming 43 = .ok (.aload_n 0, 1) := by decide +kernel
theorem dX3_coming_44 : decode cX3_coming 44 = .ok (.getfield 16, 3) := by decide +kernel
theorem dX3_coming_47 : decode cX3_coming 47 = .ok (.iconst 0, 1) := by decide +kernel
theorem dX3_coming_48 : decode cX3_coming 48 = .ok (.invokestatic 187, 3) := by decide +kernel
theorem dX3_coming_51 : decode cX3_coming 51 = .ok (.aload_n 0, 1) := by decide +kernel
theorem dX3_coming_52 : decode cX3_coming 52 = .ok (.iconst 0, 1) := by decide +kernel
theorem dX3_coming_53 : decode cX3_coming 53 = .ok (.putfield 98, 3) := by decide +kernel
theorem dX3_coming_56 : decode cX3_coming 56 = .ok (.aload_n 0, 1) := by decide +kernel
theorem dX3_coming_57 : decode cX3_coming 57 = .ok (.aload_n 0, 1) := by decide +kernel
theorem dX3_coming_58 : decode cX3_coming 58 = .ok (.getfield 16, 3) := by decide +kernel
theorem dX3_coming_61 : decode cX3_coming 61 = .ok (.iload_n 1, 1) := by decide +kernel
theorem dX3_coming_62 : decode cX3_coming 62 = .ok (.invokevirtual 177, 3) := by decide +kernel
theorem dX3_coming_65 : decode cX3_coming 65 = .ok (.pop, 1) := by decide +kernel
theorem dX3_coming_66 : decode cX3_coming 66 = .ok (.iload_n 2, 1) := by decide +kernel
theorem dX3_coming_67 : decode cX3_coming 67 = .ok (.tableswitch 80 0 3 #[29, 43, 57, 71], 29) := by decide +kernel
theorem dX3_coming_96 : decode cX3_coming 96 = .ok (.aload_n 0, 1) := by decide +kernel
theorem dX3_coming_97 : decode cX3_coming 97 = .ok (.getfield 16, 3) := by decide +kernel
theorem dX3_coming_100 : decode cX3_coming 100 = .ok (.iconst 3, 1) := by decide +kernel
theorem dX3_coming_101 : decode cX3_coming 101 = .ok (.iaload, 1) := by decide +kernel
theorem dX3_coming_102 : decode cX3_coming 102 = .ok (.aload_n 0, 1) := by decide +kernel
theorem dX3_coming_103 : decode cX3_coming 103 = .ok (.getfield 13, 3) := by decide +kernel
theorem dX3_coming_106 : decode cX3_coming 106 = .ok (.iconst 3, 1) := by decide +kernel
theorem dX3_coming_107 : decode cX3_coming 107 = .ok (.iaload, 1) := by decide +kernel
theorem dX3_coming_108 : decode cX3_coming 108 = .ok (.isub, 1) := by decide +kernel
theorem dX3_coming_109 : decode cX3_coming 109 = .ok (.ireturn, 1) := by decide +kernel
theorem dX3_coming_110 : decode cX3_coming 110 = .ok (.aload_n 0, 1) := by decide +kernel
theorem dX3_coming_111 : decode cX3_coming 111 = .ok (.getfield 16, 3) := by decide +kernel
theorem dX3_coming_114 : decode cX3_coming 114 = .ok (.iconst 4, 1) := by decide +kernel
theorem dX3_coming_115 : decode cX3_coming 115 = .ok (.iaload, 1) := by decide +kernel
theorem dX3_coming_116 : decode cX3_coming 116 = .ok (.aload_n 0, 1) := by decide +kernel
theorem dX3_coming_117 : decode cX3_coming 117 = .ok (.getfield 13, 3) := by decide +kernel
theorem dX3_coming_120 : decode cX3_coming 120 = .ok (.iconst 4, 1) := by decide +kernel
theorem dX3_coming_121 : decode cX3_coming 121 = .ok (.iaload, 1) := by decide +kernel
theorem dX3_coming_122 : decode cX3_coming 122 = .ok (.isub, 1) := by decide +kernel
theorem dX3_coming_123 : decode cX3_coming 123 = .ok (.ireturn, 1) := by decide +kernel
theorem dX3_coming_124 : decode cX3_coming 124 = .ok (.aload_n 0, 1) := by decide +kernel
theorem dX3_coming_125 : decode cX3_coming 125 = .ok (.getfield 16, 3) := by decide +kernel
theorem dX3_coming_128 : decode cX3_coming 128 = .ok (.iconst 5, 1) := by decide +kernel
theorem dX3_coming_129 : decode cX3_coming 129 = .ok (.iaload, 1) := by decide +kernel
theorem dX3_coming_130 : decode cX3_coming 130 = .ok (.aload_n 0, 1) := by decide +kernel
theorem dX3_coming_131 : decode cX3_coming 131 = .ok (.getfield 13, 3) := by decide +kernel
theorem dX3_coming_134 : decode cX3_coming 134 = .ok (.iconst 5, 1) := by decide +kernel
theorem dX3_coming_135 : decode cX3_coming 135 = .ok (.iaload, 1) := by decide +kernel
theorem dX3_coming_136 : decode cX3_coming 136 = .ok (.isub, 1) := by decide +kernel
theorem dX3_coming_137 : decode cX3_coming 137 = .ok (.ireturn, 1) := by decide +kernel
theorem dX3_coming_138 : decode cX3_coming 138 = .ok (.aload_n 0, 1) := by decide +kernel
theorem dX3_coming_139 : decode cX3_coming 139 = .ok (.getfield 16, 3) := by decide +kernel
theorem dX3_coming_142 : decode cX3_coming 142 = .ok (.iconst 0, 1) := by decide +kernel
theorem dX3_coming_143 : decode cX3_coming 143 = .ok (.invokestatic 118, 3) := by decide +kernel
theorem dX3_coming_146 : decode cX3_coming 146 = .ok (.ireturn, 1) := by decide +kernel
theorem dX3_coming_147 : decode cX3_coming 147 = .ok (.aload_n 0, 1) := by decide +kernel
theorem dX3_coming_148 : decode cX3_coming 148 = .ok (.getfield 98, 3) := by decide +kernel
theorem dX3_coming_151 : decode cX3_coming 151 = .ok (.ireturn, 1) := by decide +kernel
theorem dX3_hitsIn_0 : decode cX3_hitsIn 0 = .ok (.aload_n 0, 1) := by decide +kernel
theorem dX3_hitsIn_1 : decode cX3_hitsIn 1 = .ok (.aload_n 0, 1) := by decide +kernel
theorem dX3_hitsIn_2 : decode cX3_hitsIn 2 = .ok (.getfield 13, 3) := by decide +kernel
theorem dX3_hitsIn_5 : decode cX3_hitsIn 5 = .ok (.iload_n 1, 1) := by decide +kernel
theorem dX3_hitsIn_6 : decode cX3_hitsIn 6 = .ok (.invokestatic 44, 3) := by decide +kernel
theorem dX3_hitsIn_9 : decode cX3_hitsIn 9 = .ok (.ifCond .eq 7, 3) := by decide +kernel
theorem dX3_hitsIn_12 : decode cX3_hitsIn 12 = .ok (.iconst 0, 1) := by decide +kernel
theorem dX3_hitsIn_13 : decode cX3_hitsIn 13 = .ok (.goto 4, 3) := by decide +kernel
theorem dX3_hitsIn_16 : decode cX3_hitsIn 16 = .ok (.iconst 1, 1) := by decide +kernel
theorem dX3_hitsIn_17 : decode cX3_hitsIn 17 = .ok (.invokevirtual 130, 3) := by decide +kernel
theorem dX3_hitsIn_20 : decode cX3_hitsIn 20 = .ok (.ifCond .eq 5, 3) := by decide +kernel
theorem dX3_hitsIn_23 : decode cX3_hitsIn 23 = .ok (.iconst 0, 1) := by decide +kernel
theorem dX3_hitsIn_24 : decode cX3_hitsIn 24 = .ok (.ireturn, 1) := by decide +kernel
theorem dX3_hitsIn_25 : decode cX3_hitsIn 25 = .ok (.aload_n 0, 1) := by decide +kernel
theorem dX3_hitsIn_26 : decode cX3_hitsIn 26 = .ok (.getfield 13, 3) := by decide +kernel
theorem dX3_hitsIn_29 : decode cX3_hitsIn 29 = .ok (.iconst 0, 1) := by decide +kernel
theorem dX3_hitsIn_30 : decode cX3_hitsIn 30 = .ok (.aload_n 0, 1) := by decide +kernel
theorem dX3_hitsIn_31 : decode cX3_hitsIn 31 = .ok (.getfield 16, 3) := by decide +kernel
theorem dX3_hitsIn_34 : decode cX3_hitsIn 34 = .ok (.iconst 0, 1) := by decide +kernel
theorem dX3_hitsIn_35 : decode cX3_hitsIn 35 = .ok (.invokestatic 187, 3) := by decide +kernel
theorem dX3_hitsIn_38 : decode cX3_hitsIn 38 = .ok (.aload_n 0, 1) := by decide +kernel
theorem dX3_hitsIn_39 : decode cX3_hitsIn 39 = .ok (.getfield 16, 3) := by decide +kernel
theorem dX3_hitsIn_42 : decode cX3_hitsIn 42 = .ok (.iload_n 1, 1) := by decide +kernel
theorem dX3_hitsIn_43 : decode cX3_hitsIn 43 = .ok (.iconst 4, 1) := by decide +kernel
theorem dX3_hitsIn_44 : decode cX3_hitsIn 44 = .ok (.iconst 1, 1) := by decide +kernel
theorem dX3_hitsIn_45 : decode cX3_hitsIn 45 = .ok (.invokestatic 67, 3) := by decide +kernel
theorem dX3_hitsIn_48 : decode cX3_hitsIn 48 = .ok (.iconst 1, 1) := by decide +kernel
theorem dX3_hitsIn_49 : decode cX3_hitsIn 49 = .ok (.istore_n 2, 1) := by decide +kernel
theorem dX3_hitsIn_50 : decode cX3_hitsIn 50 = .ok (.iload_n 2, 1) := by decide +kernel
theorem dX3_hitsIn_51 : decode cX3_hitsIn 51 = .ok (.sipush 400, 3) := by decide +kernel
theorem dX3_hitsIn_54 : decode cX3_hitsIn 54 = .ok (.if_icmp .gt 44, 3) := by decide +kernel
theorem dX3_hitsIn_57 : decode cX3_hitsIn 57 = .ok (.aload_n 0, 1) := by decide +kernel
theorem dX3_hitsIn_58 : decode cX3_hitsIn 58 = .ok (.getfield 13, 3) := by decide +kernel
theorem dX3_hitsIn_61 : decode cX3_hitsIn 61 = .ok (.iload_n 1, 1) := by decide +kernel
theorem dX3_hitsIn_62 : decode cX3_hitsIn 62 = .ok (.iconst 5, 1) := by decide +kernel
theorem dX3_hitsIn_63 : decode cX3_hitsIn 63 = .ok (.invokestatic 48, 3) := by decide +kernel
theorem dX3_hitsIn_66 : decode cX3_hitsIn 66 = .ok (.ifCond .ne 32, 3) := by decide +kernel
theorem dX3_hitsIn_69 : decode cX3_hitsIn 69 = .ok (.aload_n 0, 1) := by decide +kernel
theorem dX3_hitsIn_70 : decode cX3_hitsIn 70 = .ok (.aload_n 0, 1) := by decide +kernel
theorem dX3_hitsIn_71 : decode cX3_hitsIn 71 = .ok (.getfield 16, 3) := by decide +kernel
theorem dX3_hitsIn_74 : decode cX3_hitsIn 74 = .ok (.invokevirtual 107, 3) := by decide +kernel
theorem dX3_hitsIn_77 : decode cX3_hitsIn 77 = .ok (.aload_n 0, 1) := by decide +kernel
theorem dX3_hitsIn_78 : decode cX3_hitsIn 78 = .ok (.getfield 16, 3) := by decide +kernel
theorem dX3_hitsIn_81 : decode cX3_hitsIn 81 = .ok (.iload_n 1, 1) := by decide +kernel
theorem dX3_hitsIn_82 : decode cX3_hitsIn 82 = .ok (.iconst 5, 1) := by decide +kernel
theorem dX3_hitsIn_83 : decode cX3_hitsIn 83 = .ok (.invokestatic 48, 3) := by decide +kernel
theorem dX3_hitsIn_86 : decode cX3_hitsIn 86 = .ok (.iconst 1, 1) := by decide +kernel
theorem dX3_hitsIn_87 : decode cX3_hitsIn 87 = .ok (.if_icmp .ne 5, 3) := by decide +kernel
theorem dX3_hitsIn_90 : decode cX3_hitsIn 90 = .ok (.iload_n 2, 1) := by decide +kernel
theorem dX3_hitsIn_91 : decode cX3_hitsIn 91 = .ok (.ireturn, 1) := by decide +kernel
theorem dX3_hitsIn_92 : decode cX3_hitsIn 92 = .ok (.iinc 2 1, 3) := by decide +kernel
theorem dX3_hitsIn_95 : decode cX3_hitsIn 95 = .ok (.goto (-45), 3) := by decide +kernel
theorem dX3_hitsIn_98 : decode cX3_hitsIn 98 = .ok (.iconst (-1), 1) := by decide +kernel
theorem dX3_hitsIn_99 : decode cX3_hitsIn 99 = .ok (.ireturn, 1) := by decide +kernel
theorem dX3_command_0 : decode cX3_command 0 = .ok (.iload_n 2, 1) := by decide +kernel
theorem dX3_command_1 : decode cX3_command 1 = .ok (.sipush 1000, 3) := by decide +kernel
theorem dX3_command_4 : decode cX3_command 4 = .ok (.idiv, 1) := by decide +kernel
theorem dX3_command_5 : decode cX3_command 5 = .ok (.istore_n 3, 1) := by decide +kernel
theorem dX3_command_6 : decode cX3_command 6 = .ok (.iload_n 2, 1) := by decide +kernel
theorem dX3_command_7 : decode cX3_command 7 = .ok (.bipush 100, 2) := by decide +kernel
theorem dX3_command_9 : decode cX3_command 9 = .ok (.idiv, 1) := by decide +kernel
theorem dX3_command_10 : decode cX3_command 10 = .ok (.bipush 10, 2) := by decide +kernel
theorem dX3_command_12 : decode cX3_command 12 = .ok (.irem, 1) := by decide +kernel
theorem dX3_command_13 : decode cX3_command 13 = .ok (.istore 4, 2) := by decide +kernel
theorem dX3_command_15 : decode cX3_command 15 = .ok (.iload_n 2, 1) := by decide +kernel
theorem dX3_command_16 : decode cX3_command 16 = .ok (.bipush 10, 2) := by decide +kernel
theorem dX3_command_18 : decode cX3_command 18 = .ok (.idiv, 1) := by decide +kernel
theorem dX3_command_19 : decode cX3_command 19 = .ok (.bipush 100, 2) := by decide +kernel
theorem dX3_command_21 : decode cX3_command 21 = .ok (.irem, 1) := by decide +kernel
theorem dX3_command_22 : decode cX3_command 22 = .ok (.istore 5, 2) := by decide +kernel
theorem dX3_command_24 : decode cX3_command 24 = .ok (.iload_n 2, 1) := by decide +kernel
theorem dX3_command_25 : decode cX3_command 25 = .ok (.bipush 10, 2) := by decide +kernel
theorem dX3_command_27 : decode cX3_command 27 = .ok (.irem, 1) := by decide +kernel
theorem dX3_command_28 : decode cX3_command 28 = .ok (.istore 6, 2) := by decide +kernel
theorem dX3_command_30 : decode cX3_command 30 = .ok (.iload_n 1, 1) := by decide +kernel
theorem dX3_command_31 : decode cX3_command 31 = .ok (.tableswitch 399 1 9 #[49, 111, 141, 193, 229, 258, 296, 337, 359], 49) := by decide +kernel
theorem dX3_command_80 : decode cX3_command 80 = .ok (.iload 6, 2) := by decide +kernel
theorem dX3_command_82 : decode cX3_command 82 = .ok (.iconst 4, 1) := by decide +kernel
theorem dX3_command_83 : decode cX3_command 83 = .ok (.if_icmp .ge 57, 3) := by decide +kernel
theorem dX3_command_86 : decode cX3_command 86 = .ok (.aload_n 0, 1) := by decide +kernel
theorem dX3_command_87 : decode cX3_command 87 = .ok (.getfield 16, 3) := by decide +kernel
theorem dX3_command_90 : decode cX3_command 90 = .ok (.iload_n 3, 1) := by decide +kernel
theorem dX3_command_91 : decode cX3_command 91 = .ok (.iload 5, 2) := by decide +kernel
theorem dX3_command_93 : decode cX3_command 93 = .ok (.invokestatic 160, 3) := by decide +kernel
theorem dX3_command_96 : decode cX3_command 96 = .ok (.ifCond .eq 44, 3) := by decide +kernel
theorem dX3_command_99 : decode cX3_command 99 = .ok (.aload_n 0, 1) := by decide +kernel
theorem dX3_command_100 : decode cX3_command 100 = .ok (.getfield 16, 3) := by decide +kernel
theorem dX3_command_103 : decode cX3_command 103 = .ok (.iload_n 3, 1) := by decide +kernel
theorem dX3_command_104 : decode cX3_command 104 = .ok (.iload 5, 2) := by decide +kernel
theorem dX3_command_106 : decode cX3_command 106 = .ok (.iload 6, 2) := by decide +kernel
theorem dX3_command_108 : decode cX3_command 108 = .ok (.iconst 2, 1) := by decide +kernel
theorem dX3_command_109 : decode cX3_command 109 = .ok (.irem, 1) := by decide +kernel
theorem dX3_command_110 : decode cX3_command 110 = .ok (.iconst 1, 1) := by decide +kernel
theorem dX3_command_111 : decode cX3_command 111 = .ok (.if_icmp .ne 7, 3) := by decide +kernel
theorem dX3_command_114 : decode cX3_command 114 = .ok (.iconst 1, 1) := by decide +kernel
theorem dX3_command_115 : decode cX3_command 115 = .ok (.goto 4, 3) := by decide +kernel
theorem dX3_command_118 : decode cX3_command 118 = .ok (.iconst 0, 1) := by decide +kernel
theorem dX3_command_119 : decode cX3_command 119 = .ok (.iload 6, 2) := by decide +kernel
theorem dX3_command_121 : decode cX3_command 121 = .ok (.iconst 1, 1) := by decide +kernel
theorem dX3_command_122 : decode cX3_command 122 = .ok (.if_icmp .le 7, 3) := by decide +kernel
theorem dX3_command_125 : decode cX3_command 125 = .ok (.iconst 1, 1) := by decide +kernel
theorem dX3_command_126 : decode cX3_command 126 = .ok (.goto 4, 3) := by decide +kernel
theorem dX3_command_129 : decode cX3_command 129 = .ok (.iconst 0, 1) := by decide +kernel
theorem dX3_command_130 : decode cX3_command 130 = .ok (.invokestatic 163, 3) := by decide +kernel
theorem dX3_command_133 : decode cX3_command 133 = .ok (.ifCond .le 7, 3) := by decide +kernel
theorem dX3_command_136 : decode cX3_command 136 = .ok (.iconst 1, 1) := by decide +kernel
theorem dX3_command_137 : decode cX3_command 137 = .ok (.goto 4, 3) := by decide +kernel
theorem dX3_command_140 : decode cX3_command 140 = .ok (.iconst 0, 1) := by decide +kernel
theorem dX3_command_141 : decode cX3_command 141 = .ok (.ireturn, 1) := by decide +kernel
theorem dX3_command_142 : decode cX3_command 142 = .ok (.iload_n 2, 1) := by decide +kernel
theorem dX3_command_143 : decode cX3_command 143 = .ok (.i2l, 1) := by decide +kernel
theorem dX3_command_144 : decode cX3_command 144 = .ok (.lconst 1, 1) := by decide +kernel
theorem dX3_command_145 : decode cX3_command 145 = .ok (.ldc2_w 123, 3) := by decide +kernel
theorem dX3_command_148 : decode cX3_command 148 = .ok (.invokestatic 40, 3) := by decide +kernel
theorem dX3_command_151 : decode cX3_command 151 = .ok (.ifCond .eq 19, 3) := by decide +kernel
theorem dX3_command_154 : decode cX3_command 154 = .ok (.aload_n 0, 1) := by decide +kernel
theorem dX3_command_155 : decode cX3_command 155 = .ok (.aload_n 0, 1) := by decide +kernel
theorem dX3_command_156 : decode cX3_command 156 = .ok (.getfield 16, 3) := by decide +kernel
theorem dX3_command_159 : decode cX3_command 159 = .ok (.iload_n 2, 1) := by decide +kernel
theorem dX3_command_160 : decode cX3_command 160 = .ok (.invokevirtual 177, 3) := by decide +kernel
theorem dX3_command_163 : decode cX3_command 163 = .ok (.ifCond .lt 7, 3) := by decide +kernel
theorem dX3_command_166 : decode cX3_command 166 = .ok (.iconst 1, 1) := by decide +kernel
theorem dX3_command_167 : decode cX3_command 167 = .ok (.goto 4, 3) := by decide +kernel
theorem dX3_command_170 : decode cX3_command 170 = .ok (.iconst 0, 1) := by decide +kernel
theorem dX3_command_171 : decode cX3_command 171 = .ok (.ireturn, 1) := by decide +kernel
theorem dX3_command_172 : decode cX3_command 172 = .ok (.iload 4, 2) := by decide +kernel
theorem dX3_command_174 : decode cX3_command 174 = .ok (.iconst 2, 1) := by decide +kernel
theorem dX3_command_175 : decode cX3_command 175 = .ok (.if_icmp .ge 47, 3) := by decide +kernel
theorem dX3_command_178 : decode cX3_command 178 = .ok (.iload_n 2, 1) := by decide +kernel
theorem dX3_command_179 : decode cX3_command 179 = .ok (.bipush 100, 2) := by decide +kernel
theorem dX3_command_181 : decode cX3_command 181 = .ok (.irem, 1) := by decide +kernel
theorem dX3_command_182 : decode cX3_command 182 = .ok (.ifCond .ne 40, 3) := by decide +kernel
theorem dX3_command_185 : decode cX3_command 185 = .ok (.aload_n 0, 1) := by decide +kernel
theorem dX3_command_186 : decode cX3_command 186 = .ok (.getfield 16, 3) := by decide +kernel
theorem dX3_command_189 : decode cX3_command 189 = .ok (.iload_n 3, 1) := by decide +kernel
theorem dX3_command_190 : decode cX3_command 190 = .ok (.invokestatic 44, 3) := by decide +kernel
theorem dX3_command_193 : decode cX3_command 193 = .ok (.ifCond .eq 29, 3) := by decide +kernel
theorem dX3_command_196 : decode cX3_command 196 = .ok (.aload_n 0, 1) := by decide +kernel
theorem dX3_command_197 : decode cX3_command 197 = .ok (.getfield 16, 3) := by decide +kernel
theorem dX3_command_200 : decode cX3_command 200 = .ok (.iload_n 3, 1) := by decide +kernel
theorem dX3_command_201 : decode cX3_command 201 = .ok (.iload 4, 2) := by decide +kernel
theorem dX3_command_203 : decode cX3_command 203 = .ok (.iconst 1, 1) := by decide +kernel
theorem dX3_command_204 : decode cX3_command 204 = .ok (.if_icmp .ne 7, 3) := by decide +kernel
theorem dX3_command_207 : decode cX3_command 207 = .ok (.iconst 1, 1) := by decide +kernel
theorem dX3_command_208 : decode cX3_command 208 = .ok (.goto 4, 3) := by decide +kernel
theorem dX3_command_211 : decode cX3_command 211 = .ok (.iconst 0, 1) := by decide +kernel
theorem dX3_command_212 : decode cX3_command 212 = .ok (.invokestatic 167, 3) := by decide +kernel
theorem dX3_command_215 : decode cX3_command 215 = .ok (.ifCond .lt 7, 3) := by decide +kernel
theorem dX3_command_218 : decode cX3_command 218 = .ok (.iconst 1, 1) := by decide +kernel
theorem dX3_command_219 : decode cX3_command 219 = .ok (.goto 4, 3) := by decide +kernel
theorem dX3_command_222 : decode cX3_command 222 = .ok (.iconst 0, 1) := by decide +kernel
theorem dX3_command_223 : decode cX3_command 223 = .ok (.ireturn, 1) := by decide +kernel
theorem dX3_command_224 : decode cX3_command 224 = .ok (.iload_n 2, 1) := by decide +kernel
theorem dX3_command_225 : decode cX3_command 225 = .ok (.sipush 1000, 3) := by decide +kernel
theorem dX3_command_228 : decode cX3_command 228 = .ok (.irem, 1) := by decide +kernel
theorem dX3_command_229 : decode cX3_command 229 = .ok (.ifCond .ne 29, 3) := by decide +kernel
theorem dX3_command_232 : decode cX3_command 232 = .ok (.aload_n 0, 1) := by decide +kernel
theorem dX3_command_233 : decode cX3_command 233 = .ok (.getfield 16, 3) := by decide +kernel
theorem dX3_command_236 : decode cX3_command 236 = .ok (.iload_n 3, 1) := by decide +kernel
theorem dX3_command_237 : decode cX3_command 237 = .ok (.invokestatic 171, 3) := by decide +kernel
theorem dX3_command_240 : decode cX3_command 240 = .ok (.ifCond .eq 18, 3) := by decide +kernel
theorem dX3_command_243 : decode cX3_command 243 = .ok (.aload_n 0, 1) := by decide +kernel
theorem dX3_command_244 : decode cX3_command 244 = .ok (.getfield 16, 3) := by decide +kernel
theorem dX3_command_247 : decode cX3_command 247 = .ok (.iload_n 3, 1) := by decide +kernel
theorem dX3_command_248 : decode cX3_command 248 = .ok (.invokestatic 174, 3) := by decide +kernel
theorem dX3_command_251 : decode cX3_command 251 = .ok (.ifCond .lt 7, 3) := by decide +kernel
theorem dX3_command_254 : decode cX3_command 254 = .ok (.iconst 1, 1) := by decide +kernel
theorem dX3_command_255 : decode cX3_command 255 = .ok (.goto 4, 3) := by decide +kernel
theorem dX3_command_258 : decode cX3_command 258 = .ok (.iconst 0, 1) := by decide +kernel
theorem dX3_command_259 : decode cX3_command 259 = .ok (.ireturn, 1) := by decide +kernel
theorem dX3_command_260 : decode cX3_command 260 = .ok (.iload 6, 2) := by decide +kernel
theorem dX3_command_262 : decode cX3_command 262 = .ok (.ifCond .gt 12, 3) := by decide +kernel
theorem dX3_command_265 : decode cX3_command 265 = .ok (.iload_n 3, 1) := by decide +kernel
theorem dX3_command_266 : decode cX3_command 266 = .ok (.iload 5, 2) := by decide +kernel
theorem dX3_command_268 : decode cX3_command 268 = .ok (.invokestatic 207, 3) := by decide +kernel
theorem dX3_command_271 : decode cX3_command 271 = .ok (.ifCond .ne 5, 3) := by decide +kernel
theorem dX3_command_274 : decode cX3_command 274 = .ok (.iconst 0, 1) := by decide +kernel
theorem dX3_command_275 : decode cX3_command 275 = .ok (.ireturn, 1) := by decide +kernel
theorem dX3_command_276 : decode cX3_command 276 = .ok (.aload_n 0, 1) := by decide +kernel
theorem dX3_command_277 : decode cX3_command 277 = .ok (.getfield 16, 3) := by decide +kernel
theorem dX3_command_280 : decode cX3_command 280 = .ok (.bipush 7, 2) := by decide +kernel
theorem dX3_command_282 : decode cX3_command 282 = .ok (.iload_n 3, 1) := by decide +kernel
theorem dX3_command_283 : decode cX3_command 283 = .ok (.iadd, 1) := by decide +kernel
theorem dX3_command_284 : decode cX3_command 284 = .ok (.iload 5, 2) := by decide +kernel
theorem dX3_command_286 : decode cX3_command 286 = .ok (.iastore, 1) := by decide +kernel
theorem dX3_command_287 : decode cX3_command 287 = .ok (.iconst 1, 1) := by decide +kernel
theorem dX3_command_288 : decode cX3_command 288 = .ok (.ireturn, 1) := by decide +kernel
theorem dX3_command_289 : decode cX3_command 289 = .ok (.iload_n 2, 1) := by decide +kernel
theorem dX3_command_290 : decode cX3_command 290 = .ok (.bipush 100, 2) := by decide +kernel
theorem dX3_command_292 : decode cX3_command 292 = .ok (.irem, 1) := by decide +kernel
theorem dX3_command_293 : decode cX3_command 293 = .ok (.ifCond .ne 32, 3) := by decide +kernel
theorem dX3_command_296 : decode cX3_command 296 = .ok (.aload_n 0, 1) := by decide +kernel
theorem dX3_command_297 : decode cX3_command 297 = .ok (.getfield 16, 3) := by decide +kernel
theorem dX3_command_300 : decode cX3_command 300 = .ok (.iload_n 3, 1) := by decide +kernel
theorem dX3_command_301 : decode cX3_command 301 = .ok (.invokestatic 44, 3) := by decide +kernel
theorem dX3_command_304 : decode cX3_command 304 = .ok (.ifCond .eq 21, 3) := by decide +kernel
theorem dX3_command_307 : decode cX3_command 307 = .ok (.aload_n 0, 1) := by decide +kernel
theorem dX3_command_308 : decode cX3_command 308 = .ok (.getfield 16, 3) := by decide +kernel
theorem dX3_command_311 : decode cX3_command 311 = .ok (.iload_n 3, 1) := by decide +kernel
theorem dX3_command_312 : decode cX3_command 312 = .ok (.iconst 1, 1) := by decide +kernel
theorem dX3_command_313 : decode cX3_command 313 = .ok (.invokestatic 48, 3) := by decide +kernel
theorem dX3_command_316 : decode cX3_command 316 = .ok (.iload 4, 2) := by decide +kernel
theorem dX3_command_318 : decode cX3_command 318 = .ok (.if_icmp .ne 7, 3) := by decide +kernel
theorem dX3_command_321 : decode cX3_command 321 = .ok (.iconst 1, 1) := by decide +kernel
theorem dX3_command_322 : decode cX3_command 322 = .ok (.goto 4, 3) := by decide +kernel
theorem dX3_command_325 : decode cX3_command 325 = .ok (.iconst 0, 1) := by decide +kernel
theorem dX3_command_326 : decode cX3_command 326 = .ok (.ireturn, 1) := by decide +kernel
theorem dX3_command_327 : decode cX3_command 327 = .ok (.iload_n 2, 1) := by decide +kernel
theorem dX3_command_328 : decode cX3_command 328 = .ok (.sipush 1000, 3) := by decide +kernel
theorem dX3_command_331 : decode cX3_command 331 = .ok (.irem, 1) := by decide +kernel
theorem dX3_command_332 : decode cX3_command 332 = .ok (.bipush 10, 2) := by decide +kernel
theorem dX3_command_334 : decode cX3_command 334 = .ok (.if_icmp .ge 32, 3) := by decide +kernel
theorem dX3_command_337 : decode cX3_command 337 = .ok (.aload_n 0, 1) := by decide +kernel
theorem dX3_command_338 : decode cX3_command 338 = .ok (.getfield 16, 3) := by decide +kernel
theorem dX3_command_341 : decode cX3_command 341 = .ok (.iload_n 3, 1) := by decide +kernel
theorem dX3_command_342 : decode cX3_command 342 = .ok (.invokestatic 44, 3) := by decide +kernel
theorem dX3_command_345 : decode cX3_command 345 = .ok (.ifCond .eq 21, 3) := by decide +kernel
theorem dX3_command_348 : decode cX3_command 348 = .ok (.aload_n 0, 1) := by decide +kernel
theorem dX3_command_349 : decode cX3_command 349 = .ok (.getfield 16, 3) := by decide +kernel
theorem dX3_command_352 : decode cX3_command 352 = .ok (.iload_n 3, 1) := by decide +kernel
theorem dX3_command_353 : decode cX3_command 353 = .ok (.iconst 0, 1) := by decide +kernel
theorem dX3_command_354 : decode cX3_command 354 = .ok (.invokestatic 48, 3) := by decide +kernel
theorem dX3_command_357 : decode cX3_command 357 = .ok (.iload 6, 2) := by decide +kernel
theorem dX3_command_359 : decode cX3_command 359 = .ok (.if_icmp .gt 7, 3) := by decide +kernel
theorem dX3_command_362 : decode cX3_command 362 = .ok (.iconst 1, 1) := by decide +kernel
theorem dX3_command_363 : decode cX3_command 363 = .ok (.goto 4, 3) := by decide +kernel
theorem dX3_command_366 : decode cX3_command 366 = .ok (.iconst 0, 1) := by decide +kernel
theorem dX3_command_367 : decode cX3_command 367 = .ok (.ireturn, 1) := by decide +kernel
theorem dX3_command_368 : decode cX3_command 368 = .ok (.iload_n 2, 1) := by decide +kernel
theorem dX3_command_369 : decode cX3_command 369 = .ok (.bipush 100, 2) := by decide +kernel
theorem dX3_command_371 : decode cX3_command 371 = .ok (.if_icmp .ge 17, 3) := by decide +kernel
theorem dX3_command_374 : decode cX3_command 374 = .ok (.aload_n 0, 1) := by decide +kernel
theorem dX3_command_375 : decode cX3_command 375 = .ok (.getfield 16, 3) := by decide +kernel
theorem dX3_command_378 : decode cX3_command 378 = .ok (.iconst 4, 1) := by decide +kernel
theorem dX3_command_379 : decode cX3_command 379 = .ok (.iaload, 1) := by decide +kernel
theorem dX3_command_380 : decode cX3_command 380 = .ok (.iload_n 2, 1) := by decide +kernel
theorem dX3_command_381 : decode cX3_command 381 = .ok (.if_icmp .gt 7, 3) := by decide +kernel
theorem dX3_command_384 : decode cX3_command 384 = .ok (.iconst 1, 1) := by decide +kernel
theorem dX3_command_385 : decode cX3_command 385 = .ok (.goto 4, 3) := by decide +kernel
theorem dX3_command_388 : decode cX3_command 388 = .ok (.iconst 0, 1) := by decide +kernel
theorem dX3_command_389 : decode cX3_command 389 = .ok (.ireturn, 1) := by decide +kernel
theorem dX3_command_390 : decode cX3_command 390 = .ok (.iload_n 2, 1) := by decide +kernel
theorem dX3_command_391 : decode cX3_command 391 = .ok (.sipush 1000, 3) := by decide +kernel
theorem dX3_command_394 : decode cX3_command 394 = .ok (.irem, 1) := by decide +kernel
theorem dX3_command_395 : decode cX3_command 395 = .ok (.bipush 10, 2) := by decide +kernel
theorem dX3_command_397 : decode cX3_command 397 = .ok (.if_icmp .ge 31, 3) := by decide +kernel
theorem dX3_command_400 : decode cX3_command 400 = .ok (.aload_n 0, 1) := by decide +kernel
theorem dX3_command_401 : decode cX3_command 401 = .ok (.getfield 16, 3) := by decide +kernel
theorem dX3_command_404 : decode cX3_command 404 = .ok (.iload_n 3, 1) := by decide +kernel
theorem dX3_command_405 : decode cX3_command 405 = .ok (.invokestatic 44, 3) := by decide +kernel
theorem dX3_command_408 : decode cX3_command 408 = .ok (.ifCond .eq 20, 3) := by decide +kernel
theorem dX3_command_411 : decode cX3_command 411 = .ok (.aload_n 0, 1) := by decide +kernel
theorem dX3_command_412 : decode cX3_command 412 = .ok (.getfield 16, 3) := by decide +kernel
theorem dX3_command_415 : decode cX3_command 415 = .ok (.iload_n 3, 1) := by decide +kernel
theorem dX3_command_416 : decode cX3_command 416 = .ok (.invokestatic 201, 3) := by decide +kernel
theorem dX3_command_419 : decode cX3_command 419 = .ok (.iload 6, 2) := by decide +kernel
theorem dX3_command_421 : decode cX3_command 421 = .ok (.if_icmp .ne 7, 3) := by decide +kernel
theorem dX3_command_424 : decode cX3_command 424 = .ok (.iconst 1, 1) := by decide +kernel
theorem dX3_command_425 : decode cX3_command 425 = .ok (.goto 4, 3) := by decide +kernel
theorem dX3_command_428 : decode cX3_command 428 = .ok (.iconst 0, 1) := by decide +kernel
theorem dX3_command_429 : decode cX3_command 429 = .ok (.ireturn, 1) := by decide +kernel
theorem dX3_command_430 : decode cX3_command 430 = .ok (.iconst 0, 1) := by decide +kernel
theorem dX3_command_431 : decode cX3_command 431 = .ok (.ireturn, 1) := by decide +kernel
theorem dX3_runScript_0 : decode cX3_runScript 0 = .ok (.lconst 1, 1) := by decide +kernel
theorem dX3_runScript_1 : decode cX3_runScript 1 = .ok (.lstore 4, 2) := by decide +kernel
theorem dX3_runScript_3 : decode cX3_runScript 3 = .ok (.iconst 0, 1) := by decide +kernel
theorem dX3_runScript_4 : decode cX3_runScript 4 = .ok (.istore 6, 2) := by decide +kernel
theorem dX3_runScript_6 : decode cX3_runScript 6 = .ok (.iload 6, 2) := by decide +kernel
theorem dX3_runScript_8 : decode cX3_runScript 8 = .ok (.iload_n 1, 1) := by decide +kernel
theorem dX3_runScript_9 : decode cX3_runScript 9 = .ok (.if_icmp .ge 23, 3) := by decide +kernel
theorem dX3_runScript_12 : decode cX3_runScript 12 = .ok (.iload 6, 2) := by decide +kernel
theorem dX3_runScript_14 : decode cX3_runScript 14 = .ok (.iconst 3, 1) := by decide +kernel
theorem dX3_runScript_15 : decode cX3_runScript 15 = .ok (.if_icmp .ge 17, 3) := by decide +kernel
theorem dX3_runScript_18 : decode cX3_runScript 18 = .ok (.lload 4, 2) := by decide +kernel
theorem dX3_runScript_20 : decode cX3_runScript 20 = .ok (.ldc2_w 216, 3) := by decide +kernel
theorem dX3_runScript_23 : decode cX3_runScript 23 = .ok (.lmul, 1) := by decide +kernel
theorem dX3_runScript_24 : decode cX3_runScript 24 = .ok (.lstore 4, 2) := by decide +kernel
theorem dX3_runScript_26 : decode cX3_runScript 26 = .ok (.iinc 6 1, 3) := by decide +kernel
theorem dX3_runScript_29 : decode cX3_runScript 29 = .ok (.goto (-23), 3) := by decide +kernel
theorem dX3_runScript_32 : decode cX3_runScript 32 = .ok (.aload_n 0, 1) := by decide +kernel
theorem dX3_runScript_33 : decode cX3_runScript 33 = .ok (.iload_n 1, 1) := by decide +kernel
theorem dX3_runScript_34 : decode cX3_runScript 34 = .ok (.i2l, 1) := by decide +kernel
theorem dX3_runScript_35 : decode cX3_runScript 35 = .ok (.lconst 1, 1) := by decide +kernel
theorem dX3_runScript_36 : decode cX3_runScript 36 = .ok (.ldc2_w 218, 3) := by decide +kernel
theorem dX3_runScript_39 : decode cX3_runScript 39 = .ok (.invokestatic 40, 3) := by decide +kernel
theorem dX3_runScript_42 : decode cX3_runScript 42 = .ok (.ifCond .eq 19, 3) := by decide +kernel
theorem dX3_runScript_45 : decode cX3_runScript 45 = .ok (.lload_n 2, 1) := by decide +kernel
theorem dX3_runScript_46 : decode cX3_runScript 46 = .ok (.lconst 0, 1) := by decide +kernel
theorem dX3_runScript_47 : decode cX3_runScript 47 = .ok (.lload 4, 2) := by decide +kernel
theorem dX3_runScript_49 : decode cX3_runScript 49 = .ok (.lconst 1, 1) := by decide +kernel
theorem dX3_runScript_50 : decode cX3_runScript 50 = .ok (.lsub, 1) := by decide +kernel
theorem dX3_runScript_51 : decode cX3_runScript 51 = .ok (.invokestatic 40, 3) := by decide +kernel
theorem dX3_runScript_54 : decode cX3_runScript 54 = .ok (.ifCond .eq 7, 3) := by decide +kernel
theorem dX3_runScript_57 : decode cX3_runScript 57 = .ok (.iconst 0, 1) := by decide +kernel
theorem dX3_runScript_58 : decode cX3_runScript 58 = .ok (.goto 4, 3) := by decide +kernel
theorem dX3_runScript_61 : decode cX3_runScript 61 = .ok (.iconst 1, 1) := by decide +kernel
theorem dX3_runScript_62 : decode cX3_runScript 62 = .ok (.invokevirtual 130, 3) := by decide +kernel
theorem dX3_runScript_65 : decode cX3_runScript 65 = .ok (.ifCond .eq 5, 3) := by decide +kernel
theorem dX3_runScript_68 : decode cX3_runScript 68 = .ok (.iconst 0, 1) := by decide +kernel
theorem dX3_runScript_69 : decode cX3_runScript 69 = .ok (.ireturn, 1) := by decide +kernel
theorem dX3_runScript_70 : decode cX3_runScript 70 = .ok (.aload_n 0, 1) := by decide +kernel
theorem dX3_runScript_71 : decode cX3_runScript 71 = .ok (.getfield 13, 3) := by decide +kernel
theorem dX3_runScript_74 : decode cX3_runScript 74 = .ok (.iconst 0, 1) := by decide +kernel
theorem dX3_runScript_75 : decode cX3_runScript 75 = .ok (.aload_n 0, 1) := by decide +kernel
theorem dX3_runScript_76 : decode cX3_runScript 76 = .ok (.getfield 16, 3) := by decide +kernel
theorem dX3_runScript_79 : decode cX3_runScript 79 = .ok (.iconst 0, 1) := by decide +kernel
theorem dX3_runScript_80 : decode cX3_runScript 80 = .ok (.invokestatic 187, 3) := by decide +kernel
theorem dX3_runScript_83 : decode cX3_runScript 83 = .ok (.iconst 0, 1) := by decide +kernel
theorem dX3_runScript_84 : decode cX3_runScript 84 = .ok (.istore 6, 2) := by decide +kernel
theorem dX3_runScript_86 : decode cX3_runScript 86 = .ok (.iload 6, 2) := by decide +kernel
theorem dX3_runScript_88 : decode cX3_runScript 88 = .ok (.iload_n 1, 1) := by decide +kernel
theorem dX3_runScript_89 : decode cX3_runScript 89 = .ok (.if_icmp .ge 50, 3) := by decide +kernel
theorem dX3_runScript_92 : decode cX3_runScript 92 = .ok (.lload 4, 2) := by decide +kernel
theorem dX3_runScript_94 : decode cX3_runScript 94 = .ok (.ldc2_w 216, 3) := by decide +kernel
theorem dX3_runScript_97 : decode cX3_runScript 97 = .ok (.ldiv, 1) := by decide +kernel
theorem dX3_runScript_98 : decode cX3_runScript 98 = .ok (.lstore 4, 2) := by decide +kernel
theorem dX3_runScript_100 : decode cX3_runScript 100 = .ok (.lload_n 2, 1) := by decide +kernel
theorem dX3_runScript_101 : decode cX3_runScript 101 = .ok (.lload 4, 2) := by decide +kernel
theorem dX3_runScript_103 : decode cX3_runScript 103 = .ok (.ldiv, 1) := by decide +kernel
theorem dX3_runScript_104 : decode cX3_runScript 104 = .ok (.ldc2_w 216, 3) := by decide +kernel
theorem dX3_runScript_107 : decode cX3_runScript 107 = .ok (.lrem, 1) := by decide +kernel
theorem dX3_runScript_108 : decode cX3_runScript 108 = .ok (.l2i, 1) := by decide +kernel
theorem dX3_runScript_109 : decode cX3_runScript 109 = .ok (.istore 7, 2) := by decide +kernel
theorem dX3_runScript_111 : decode cX3_runScript 111 = .ok (.aload_n 0, 1) := by decide +kernel
theorem dX3_runScript_112 : decode cX3_runScript 112 = .ok (.iload 7, 2) := by decide +kernel
theorem dX3_runScript_114 : decode cX3_runScript 114 = .ok (.sipush 10000, 3) := by decide +kernel
theorem dX3_runScript_117 : decode cX3_runScript 117 = .ok (.idiv, 1) := by decide +kernel
theorem dX3_runScript_118 : decode cX3_runScript 118 = .ok (.iload 7, 2) := by decide +kernel
theorem dX3_runScript_120 : decode cX3_runScript 120 = .ok (.sipush 10000, 3) := by decide +kernel
theorem dX3_runScript_123 : decode cX3_runScript 123 = .ok (.irem, 1) := by decide +kernel
theorem dX3_runScript_124 : decode cX3_runScript 124 = .ok (.invokevirtual 220, 3) := by decide +kernel
theorem dX3_runScript_127 : decode cX3_runScript 127 = .ok (.ifCond .ne 6, 3) := by decide +kernel
theorem dX3_runScript_130 : decode cX3_runScript 130 = .ok (.iload 6, 2) := by decide +kernel
theorem dX3_runScript_132 : decode cX3_runScript 132 = .ok (.ireturn, 1) := by decide +kernel
theorem dX3_runScript_133 : decode cX3_runScript 133 = .ok (.iinc 6 1, 3) := by decide +kernel
theorem dX3_runScript_136 : decode cX3_runScript 136 = .ok (.goto (-50), 3) := by decide +kernel
theorem dX3_runScript_139 : decode cX3_runScript 139 = .ok (.iconst (-1), 1) := by decide +kernel
theorem dX3_runScript_140 : decode cX3_runScript 140 = .ok (.ireturn, 1) := by decide +kernel
theorem dX3_turn_0 : decode cX3_turn 0 = .ok (.iload_n 1, 1) := by decide +kernel
theorem dX3_turn_1 : decode cX3_turn 1 = .ok (.bipush 8, 2) := by decide +kernel
theorem dX3_turn_3 : decode cX3_turn 3 = .ok (.idiv, 1) := by decide +kernel
theorem dX3_turn_4 : decode cX3_turn 4 = .ok (.istore_n 2, 1) := by decide +kernel
theorem dX3_turn_5 : decode cX3_turn 5 = .ok (.iload_n 2, 1) := by decide +kernel
theorem dX3_turn_6 : decode cX3_turn 6 = .ok (.iconst 3, 1) := by decide +kernel
theorem dX3_turn_7 : decode cX3_turn 7 = .ok (.irem, 1) := by decide +kernel
theorem dX3_turn_8 : decode cX3_turn 8 = .ok (.istore_n 3, 1) := by decide +kernel
theorem dX3_turn_9 : decode cX3_turn 9 = .ok (.iload_n 1, 1) := by decide +kernel
theorem dX3_turn_10 : decode cX3_turn 10 = .ok (.bipush 8, 2) := by decide +kernel
theorem dX3_turn_12 : decode cX3_turn 12 = .ok (.irem, 1) := by decide +kernel
theorem dX3_turn_13 : decode cX3_turn 13 = .ok (.istore 4, 2) := by decide +kernel
theorem dX3_turn_15 : decode cX3_turn 15 = .ok (.iload 4, 2) := by decide +kernel
theorem dX3_turn_17 : decode cX3_turn 17 = .ok (.iconst 3, 1) := by decide +kernel
theorem dX3_turn_18 : decode cX3_turn 18 = .ok (.if_icmp .ge 72, 3) := by decide +kernel
theorem dX3_turn_21 : decode cX3_turn 21 = .ok (.aload_n 0, 1) := by decide +kernel
theorem dX3_turn_22 : decode cX3_turn 22 = .ok (.getfield 16, 3) := by decide +kernel
theorem dX3_turn_25 : decode cX3_turn 25 = .ok (.iload_n 3, 1) := by decide +kernel
theorem dX3_turn_26 : decode cX3_turn 26 = .ok (.iconst 2, 1) := by decide +kernel
theorem dX3_turn_27 : decode cX3_turn 27 = .ok (.iload_n 2, 1) := by decide +kernel
theorem dX3_turn_28 : decode cX3_turn 28 = .ok (.iconst 4, 1) := by decide +kernel
theorem dX3_turn_29 : decode cX3_turn 29 = .ok (.idiv, 1) := by decide +kernel
theorem dX3_turn_30 : decode cX3_turn 30 = .ok (.bipush 11, 2) := by decide +kernel
theorem dX3_turn_32 : decode cX3_turn 32 = .ok (.irem, 1) := by decide +kernel
theorem dX3_turn_33 : decode cX3_turn 33 = .ok (.iadd, 1) := by decide +kernel
theorem dX3_turn_34 : decode cX3_turn 34 = .ok (.invokestatic 160, 3) := by decide +kernel
theorem dX3_turn_37 : decode cX3_turn 37 = .ok (.ifCond .eq 139, 3) := by decide +kernel
theorem dX3_turn_40 : decode cX3_turn 40 = .ok (.aload_n 0, 1) := by decide +kernel
theorem dX3_turn_41 : decode cX3_turn 41 = .ok (.getfield 16, 3) := by decide +kernel
theorem dX3_turn_44 : decode cX3_turn 44 = .ok (.iload_n 3, 1) := by decide +kernel
theorem dX3_turn_45 : decode cX3_turn 45 = .ok (.iconst 2, 1) := by decide +kernel
theorem dX3_turn_46 : decode cX3_turn 46 = .ok (.iload_n 2, 1) := by decide +kernel
theorem dX3_turn_47 : decode cX3_turn 47 = .ok (.iconst 4, 1) := by decide +kernel
theorem dX3_turn_48 : decode cX3_turn 48 = .ok (.idiv, 1) := by decide +kernel
theorem dX3_turn_49 : decode cX3_turn 49 = .ok (.bipush 11, 2) := by decide +kernel
theorem dX3_turn_51 : decode cX3_turn 51 = .ok (.irem, 1) := by decide +kernel
theorem dX3_turn_52 : decode cX3_turn 52 = .ok (.iadd, 1) := by decide +kernel
theorem dX3_turn_53 : decode cX3_turn 53 = .ok (.iload_n 2, 1) := by decide +kernel
theorem dX3_turn_54 : decode cX3_turn 54 = .ok (.bipush 64, 2) := by decide +kernel
theorem dX3_turn_56 : decode cX3_turn 56 = .ok (.idiv, 1) := by decide +kernel
theorem dX3_turn_57 : decode cX3_turn 57 = .ok (.bipush 8, 2) := by decide +kernel
theorem dX3_turn_59 : decode cX3_turn 59 = .ok (.irem, 1) := by decide +kernel
theorem dX3_turn_60 : decode cX3_turn 60 = .ok (.ifCond .ne 7, 3) := by decide +kernel
theorem dX3_turn_63 : decode cX3_turn 63 = .ok (.iconst 1, 1) := by decide +kernel
theorem dX3_turn_64 : decode cX3_turn 64 = .ok (.goto 4, 3) := by decide +kernel
theorem dX3_turn_67 : decode cX3_turn 67 = .ok (.iconst 0, 1) := by decide +kernel
theorem dX3_turn_68 : decode cX3_turn 68 = .ok (.iload_n 2, 1) := by decide +kernel
theorem dX3_turn_69 : decode cX3_turn 69 = .ok (.sipush 512, 3) := by decide +kernel
theorem dX3_turn_72 : decode cX3_turn 72 = .ok (.idiv, 1) := by decide +kernel
theorem dX3_turn_73 : decode cX3_turn 73 = .ok (.iconst 4, 1) := by decide +kernel
theorem dX3_turn_74 : decode cX3_turn 74 = .ok (.irem, 1) := by decide +kernel
theorem dX3_turn_75 : decode cX3_turn 75 = .ok (.ifCond .ne 7, 3) := by decide +kernel
theorem dX3_turn_78 : decode cX3_turn 78 = .ok (.iconst 1, 1) := by decide +kernel
theorem dX3_turn_79 : decode cX3_turn 79 = .ok (.goto 4, 3) := by decide +kernel
theorem dX3_turn_82 : decode cX3_turn 82 = .ok (.iconst 0, 1) := by decide +kernel
theorem dX3_turn_83 : decode cX3_turn 83 = .ok (.invokestatic 163, 3) := by decide +kernel
theorem dX3_turn_86 : decode cX3_turn 86 = .ok (.pop, 1) := by decide +kernel
theorem dX3_turn_87 : decode cX3_turn 87 = .ok (.goto 89, 3) := by decide +kernel
theorem dX3_turn_90 : decode cX3_turn 90 = .ok (.iload 4, 2) := by decide +kernel
theorem dX3_turn_92 : decode cX3_turn 92 = .ok (.iconst 3, 1) := by decide +kernel
theorem dX3_turn_93 : decode cX3_turn 93 = .ok (.if_icmp .ne 39, 3) := by decide +kernel
theorem dX3_turn_96 : decode cX3_turn 96 = .ok (.aload_n 0, 1) := by decide +kernel
theorem dX3_turn_97 : decode cX3_turn 97 = .ok (.getfield 16, 3) := by decide +kernel
theorem dX3_turn_100 : decode cX3_turn 100 = .ok (.iload_n 3, 1) := by decide +kernel
theorem dX3_turn_101 : decode cX3_turn 101 = .ok (.invokestatic 44, 3) := by decide +kernel
theorem dX3_turn_104 : decode cX3_turn 104 = .ok (.ifCond .eq 72, 3) := by decide +kernel
theorem dX3_turn_107 : decode cX3_turn 107 = .ok (.aload_n 0, 1) := by decide +kernel
theorem dX3_turn_108 : decode cX3_turn 108 = .ok (.getfield 16, 3) := by decide +kernel
theorem dX3_turn_111 : decode cX3_turn 111 = .ok (.iload_n 3, 1) := by decide +kernel
theorem dX3_turn_112 : decode cX3_turn 112 = .ok (.iload_n 2, 1) := by decide +kernel
theorem dX3_turn_113 : decode cX3_turn 113 = .ok (.iconst 4, 1) := by decide +kernel
theorem dX3_turn_114 : decode cX3_turn 114 = .ok (.idiv, 1) := by decide +kernel
theorem dX3_turn_115 : decode cX3_turn 115 = .ok (.iconst 4, 1) := by decide +kernel
theorem dX3_turn_116 : decode cX3_turn 116 = .ok (.irem, 1) := by decide +kernel
theorem dX3_turn_117 : decode cX3_turn 117 = .ok (.ifCond .ne 7, 3) := by decide +kernel
theorem dX3_turn_120 : decode cX3_turn 120 = .ok (.iconst 1, 1) := by decide +kernel
theorem dX3_turn_121 : decode cX3_turn 121 = .ok (.goto 4, 3) := by decide +kernel
theorem dX3_turn_124 : decode cX3_turn 124 = .ok (.iconst 0, 1) := by decide +kernel
theorem dX3_turn_125 : decode cX3_turn 125 = .ok (.invokestatic 167, 3) := by decide +kernel
theorem dX3_turn_128 : decode cX3_turn 128 = .ok (.pop, 1) := by decide +kernel
theorem dX3_turn_129 : decode cX3_turn 129 = .ok (.goto 47, 3) := by decide +kernel
theorem dX3_turn_132 : decode cX3_turn 132 = .ok (.iload 4, 2) := by decide +kernel
theorem dX3_turn_134 : decode cX3_turn 134 = .ok (.iconst 4, 1) := by decide +kernel
theorem dX3_turn_135 : decode cX3_turn 135 = .ok (.if_icmp .ne 26, 3) := by decide +kernel
theorem dX3_turn_138 : decode cX3_turn 138 = .ok (.aload_n 0, 1) := by decide +kernel
theorem dX3_turn_139 : decode cX3_turn 139 = .ok (.getfield 16, 3) := by decide +kernel
theorem dX3_turn_142 : decode cX3_turn 142 = .ok (.iload_n 3, 1) := by decide +kernel
theorem dX3_turn_143 : decode cX3_turn 143 = .ok (.invokestatic 171, 3) := by decide +kernel
theorem dX3_turn_146 : decode cX3_turn 146 = .ok (.ifCond .eq 30, 3) := by decide +kernel
theorem dX3_turn_149 : decode cX3_turn 149 = .ok (.aload_n 0, 1) := by decide +kernel
theorem dX3_turn_150 : decode cX3_turn 150 = .ok (.getfield 16, 3) := by decide +kernel
theorem dX3_turn_153 : decode cX3_turn 153 = .ok (.iload_n 3, 1) := by decide +kernel
theorem dX3_turn_154 : decode cX3_turn 154 = .ok (.invokestatic 174, 3) := by decide +kernel
theorem dX3_turn_157 : decode cX3_turn 157 = .ok (.pop, 1) := by decide +kernel
theorem dX3_turn_158 : decode cX3_turn 158 = .ok (.goto 18, 3) := by decide +kernel
theorem dX3_turn_161 : decode cX3_turn 161 = .ok (.aload_n 0, 1) := by decide +kernel
theorem dX3_turn_162 : decode cX3_turn 162 = .ok (.aload_n 0, 1) := by decide +kernel
theorem dX3_turn_163 : decode cX3_turn 163 = .ok (.getfield 16, 3) := by decide +kernel
theorem dX3_turn_166 : decode cX3_turn 166 = .ok (.iconst 1, 1) := by decide +kernel
theorem dX3_turn_167 : decode cX3_turn 167 = .ok (.iload_n 2, 1) := by decide +kernel
theorem dX3_turn_168 : decode cX3_turn 168 = .ok (.bipush 20, 2) := by decide +kernel
theorem dX3_turn_170 : decode cX3_turn 170 = .ok (.irem, 1) := by decide +kernel
theorem dX3_turn_171 : decode cX3_turn 171 = .ok (.iadd, 1) := by decide +kernel
theorem dX3_turn_172 : decode cX3_turn 172 = .ok (.invokevirtual 177, 3) := by decide +kernel
theorem dX3_turn_175 : decode cX3_turn 175 = .ok (.pop, 1) := by decide +kernel
theorem dX3_turn_176 : decode cX3_turn 176 = .ok (.return_, 1) := by decide +kernel
theorem dX3_simulate_0 : decode cX3_simulate 0 = .ok (.aload_n 0, 1) := by decide +kernel
theorem dX3_simulate_1 : decode cX3_simulate 1 = .ok (.iload_n 3, 1) := by decide +kernel
theorem dX3_simulate_2 : decode cX3_simulate 2 = .ok (.i2l, 1) := by decide +kernel
theorem dX3_simulate_3 : decode cX3_simulate 3 = .ok (.lconst 1, 1) := by decide +kernel
theorem dX3_simulate_4 : decode cX3_simulate 4 = .ok (.ldc2_w 123, 3) := by decide +kernel
theorem dX3_simulate_7 : decode cX3_simulate 7 = .ok (.invokestatic 40, 3) := by decide +kernel
theorem dX3_simulate_10 : decode cX3_simulate 10 = .ok (.ifCond .eq 7, 3) := by decide +kernel
theorem dX3_simulate_13 : decode cX3_simulate 13 = .ok (.iconst 0, 1) := by decide +kernel
theorem dX3_simulate_14 : decode cX3_simulate 14 = .ok (.goto 4, 3) := by decide +kernel
theorem dX3_simulate_17 : decode cX3_simulate 17 = .ok (.iconst 1, 1) := by decide +kernel
theorem dX3_simulate_18 : decode cX3_simulate 18 = .ok (.invokevirtual 130, 3) := by decide +kernel
theorem dX3_simulate_21 : decode cX3_simulate 21 = .ok (.ifCond .eq 5, 3) := by decide +kernel
theorem dX3_simulate_24 : decode cX3_simulate 24 = .ok (.iconst 0, 1) := by decide +kernel
theorem dX3_simulate_25 : decode cX3_simulate 25 = .ok (.ireturn, 1) := by decide +kernel
theorem dX3_simulate_26 : decode cX3_simulate 26 = .ok (.aload_n 0, 1) := by decide +kernel
theorem dX3_simulate_27 : decode cX3_simulate 27 = .ok (.getfield 13, 3) := by decide +kernel
theorem dX3_simulate_30 : decode cX3_simulate 30 = .ok (.iconst 0, 1) := by decide +kernel
theorem dX3_simulate_31 : decode cX3_simulate 31 = .ok (.aload_n 0, 1) := by decide +kernel
theorem dX3_simulate_32 : decode cX3_simulate 32 = .ok (.getfield 16, 3) := by decide +kernel
theorem dX3_simulate_35 : decode cX3_simulate 35 = .ok (.iconst 0, 1) := by decide +kernel
theorem dX3_simulate_36 : decode cX3_simulate 36 = .ok (.invokestatic 187, 3) := by decide +kernel
theorem dX3_simulate_39 : decode cX3_simulate 39 = .ok (.lload_n 1, 1) := by decide +kernel
theorem dX3_simulate_40 : decode cX3_simulate 40 = .ok (.lstore 4, 2) := by decide +kernel
theorem dX3_simulate_42 : decode cX3_simulate 42 = .ok (.iconst 0, 1) := by decide +kernel
theorem dX3_simulate_43 : decode cX3_simulate 43 = .ok (.istore 6, 2) := by decide +kernel
theorem dX3_simulate_45 : decode cX3_simulate 45 = .ok (.iload 6, 2) := by decide +kernel
theorem dX3_simulate_47 : decode cX3_simulate 47 = .ok (.iload_n 3, 1) := by decide +kernel
theorem dX3_simulate_48 : decode cX3_simulate 48 = .ok (.if_icmp .ge 31, 3) := by decide +kernel
theorem dX3_simulate_51 : decode cX3_simulate 51 = .ok (.lload 4, 2) := by decide +kernel
theorem dX3_simulate_53 : decode cX3_simulate 53 = .ok (.ldc2_w 223, 3) := by decide +kernel
theorem dX3_simulate_56 : decode cX3_simulate 56 = .ok (.lmul, 1) := by decide +kernel
theorem dX3_simulate_57 : decode cX3_simulate 57 = .ok (.ldc2_w 225, 3) := by decide +kernel
theorem dX3_simulate_60 : decode cX3_simulate 60 = .ok (.ladd, 1) := by decide +kernel
theorem dX3_simulate_61 : decode cX3_simulate 61 = .ok (.lstore 4, 2) := by decide +kernel
theorem dX3_simulate_63 : decode cX3_simulate 63 = .ok (.aload_n 0, 1) := by decide +kernel
theorem dX3_simulate_64 : decode cX3_simulate 64 = .ok (.lload 4, 2) := by decide +kernel
theorem dX3_simulate_66 : decode cX3_simulate 66 = .ok (.bipush 33, 2) := by decide +kernel
theorem dX3_simulate_68 : decode cX3_simulate 68 = .ok (.lushr, 1) := by decide +kernel
theorem dX3_simulate_69 : decode cX3_simulate 69 = .ok (.l2i, 1) := by decide +kernel
theorem dX3_simulate_70 : decode cX3_simulate 70 = .ok (.invokevirtual 227, 3) := by decide +kernel
theorem dX3_simulate_73 : decode cX3_simulate 73 = .ok (.iinc 6 1, 3) := by decide +kernel
theorem dX3_simulate_76 : decode cX3_simulate 76 = .ok (.goto (-31), 3) := by decide +kernel
theorem dX3_simulate_79 : decode cX3_simulate 79 = .ok (.aload_n 0, 1) := by decide +kernel
theorem dX3_simulate_80 : decode cX3_simulate 80 = .ok (.getfield 16, 3) := by decide +kernel
theorem dX3_simulate_83 : decode cX3_simulate 83 = .ok (.iconst 2, 1) := by decide +kernel
theorem dX3_simulate_84 : decode cX3_simulate 84 = .ok (.iaload, 1) := by decide +kernel
theorem dX3_simulate_85 : decode cX3_simulate 85 = .ok (.aload_n 0, 1) := by decide +kernel
theorem dX3_simulate_86 : decode cX3_simulate 86 = .ok (.getfield 13, 3) := by decide +kernel
theorem dX3_simulate_89 : decode cX3_simulate 89 = .ok (.iconst 2, 1) := by decide +kernel
theorem dX3_simulate_90 : decode cX3_simulate 90 = .ok (.iaload, 1) := by decide +kernel
theorem dX3_simulate_91 : decode cX3_simulate 91 = .ok (.isub, 1) := by decide +kernel
theorem dX3_simulate_92 : decode cX3_simulate 92 = .ok (.istore 6, 2) := by decide +kernel
theorem dX3_simulate_94 : decode cX3_simulate 94 = .ok (.sipush 10000, 3) := by decide +kernel
theorem dX3_simulate_97 : decode cX3_simulate 97 = .ok (.aload_n 0, 1) := by decide +kernel
theorem dX3_simulate_98 : decode cX3_simulate 98 = .ok (.getfield 16, 3) := by decide +kernel
theorem dX3_simulate_101 : decode cX3_simulate 101 = .ok (.iconst 5, 1) := by decide +kernel
theorem dX3_simulate_102 : decode cX3_simulate 102 = .ok (.iaload, 1) := by decide +kernel
theorem dX3_simulate_103 : decode cX3_simulate 103 = .ok (.aload_n 0, 1) := by decide +kernel
theorem dX3_simulate_104 : decode cX3_simulate 104 = .ok (.getfield 13, 3) := by decide +kernel
theorem dX3_simulate_107 : decode cX3_simulate 107 = .ok (.iconst 5, 1) := by decide +kernel
theorem dX3_simulate_108 : decode cX3_simulate 108 = .ok (.iaload, 1) := by decide +kernel
theorem dX3_simulate_109 : decode cX3_simulate 109 = .ok (.isub, 1) := by decide +kernel
theorem dX3_simulate_110 : decode cX3_simulate 110 = .ok (.imul, 1) := by decide +kernel
theorem dX3_simulate_111 : decode cX3_simulate 111 = .ok (.bipush 100, 2) := by decide +kernel
theorem dX3_simulate_113 : decode cX3_simulate 113 = .ok (.aload_n 0, 1) := by decide +kernel
theorem dX3_simulate_114 : decode cX3_simulate 114 = .ok (.getfield 16, 3) := by decide +kernel
theorem dX3_simulate_117 : decode cX3_simulate 117 = .ok (.iconst 4, 1) := by decide +kernel
theorem dX3_simulate_118 : decode cX3_simulate 118 = .ok (.iaload, 1) := by decide +kernel
theorem dX3_simulate_119 : decode cX3_simulate 119 = .ok (.aload_n 0, 1) := by decide +kernel
theorem dX3_simulate_120 : decode cX3_simulate 120 = .ok (.getfield 13, 3) := by decide +kernel
theorem dX3_simulate_123 : decode cX3_simulate 123 = .ok (.iconst 4, 1) := by decide +kernel
theorem dX3_simulate_124 : decode cX3_simulate 124 = .ok (.iaload, 1) := by decide +kernel
theorem dX3_simulate_125 : decode cX3_simulate 125 = .ok (.isub, 1) := by decide +kernel
theorem dX3_simulate_126 : decode cX3_simulate 126 = .ok (.imul, 1) := by decide +kernel
theorem dX3_simulate_127 : decode cX3_simulate 127 = .ok (.iadd, 1) := by decide +kernel
theorem dX3_simulate_128 : decode cX3_simulate 128 = .ok (.iload 6, 2) := by decide +kernel
theorem dX3_simulate_130 : decode cX3_simulate 130 = .ok (.bipush 99, 2) := by decide +kernel
theorem dX3_simulate_132 : decode cX3_simulate 132 = .ok (.if_icmp .le 8, 3) := by decide +kernel
theorem dX3_simulate_135 : decode cX3_simulate 135 = .ok (.bipush 99, 2) := by decide +kernel
theorem dX3_simulate_137 : decode cX3_simulate 137 = .ok (.goto 5, 3) := by decide +kernel
theorem dX3_simulate_140 : decode cX3_simulate 140 = .ok (.iload 6, 2) := by decide +kernel
theorem dX3_simulate_142 : decode cX3_simulate 142 = .ok (.iadd, 1) := by decide +kernel
theorem dX3_simulate_143 : decode cX3_simulate 143 = .ok (.ireturn, 1) := by decide +kernel
theorem dX3_save_0 : decode cX3_save 0 = .ok (.aload_n 0, 1) := by decide +kernel
theorem dX3_save_1 : decode cX3_save 1 = .ok (.iload_n 1, 1) := by decide +kernel
theorem dX3_save_2 : decode cX3_save 2 = .ok (.i2l, 1) := by decide +kernel
theorem dX3_save_3 : decode cX3_save 3 = .ok (.lconst 0, 1) := by decide +kernel
theorem dX3_save_4 : decode cX3_save 4 = .ok (.lconst 1, 1) := by decide +kernel
theorem dX3_save_5 : decode cX3_save 5 = .ok (.invokestatic 40, 3) := by decide +kernel
theorem dX3_save_8 : decode cX3_save 8 = .ok (.ifCond .eq 7, 3) := by decide +kernel
theorem dX3_save_11 : decode cX3_save 11 = .ok (.iconst 0, 1) := by decide +kernel
theorem dX3_save_12 : decode cX3_save 12 = .ok (.goto 4, 3) := by decide +kernel
theorem dX3_save_15 : decode cX3_save 15 = .ok (.iconst 1, 1) := by decide +kernel
theorem dX3_save_16 : decode cX3_save 16 = .ok (.invokevirtual 130, 3) := by decide +kernel
theorem dX3_save_19 : decode cX3_save 19 = .ok (.ifCond .eq 5, 3) := by decide +kernel
theorem dX3_save_22 : decode cX3_save 22 = .ok (.iconst 0, 1) := by decide +kernel
theorem dX3_save_23 : decode cX3_save 23 = .ok (.ireturn, 1) := by decide +kernel
theorem dX3_save_24 : decode cX3_save 24 = .ok (.aload_n 0, 1) := by decide +kernel
theorem dX3_save_25 : decode cX3_save 25 = .ok (.getfield 13, 3) := by decide +kernel
theorem dX3_save_28 : decode cX3_save 28 = .ok (.iconst 0, 1) := by decide +kernel
theorem dX3_save_29 : decode cX3_save 29 = .ok (.aload_n 0, 1) := by decide +kernel
theorem dX3_save_30 : decode cX3_save 30 = .ok (.getfield 22, 3) := by decide +kernel
theorem dX3_save_33 : decode cX3_save 33 = .ok (.bipush 121, 2) := by decide +kernel
theorem dX3_save_35 : decode cX3_save 35 = .ok (.iload_n 1, 1) := by decide +kernel
theorem dX3_save_36 : decode cX3_save 36 = .ok (.imul, 1) := by decide +kernel
theorem dX3_save_37 : decode cX3_save 37 = .ok (.invokestatic 187, 3) := by decide +kernel
theorem dX3_save_40 : decode cX3_save 40 = .ok (.aload_n 0, 1) := by decide +kernel
theorem dX3_save_41 : decode cX3_save 41 = .ok (.getfield 25, 3) := by decide +kernel
theorem dX3_save_44 : decode cX3_save 44 = .ok (.iload_n 1, 1) := by decide +kernel
theorem dX3_save_45 : decode cX3_save 45 = .ok (.iconst 1, 1) := by decide +kernel
theorem dX3_save_46 : decode cX3_save 46 = .ok (.bastore, 1) := by decide +kernel
theorem dX3_save_47 : decode cX3_save 47 = .ok (.aload_n 0, 1) := by decide +kernel
theorem dX3_save_48 : decode cX3_save 48 = .ok (.getfield 13, 3) := by decide +kernel
theorem dX3_save_51 : decode cX3_save 51 = .ok (.iconst 1, 1) := by decide +kernel
theorem dX3_save_52 : decode cX3_save 52 = .ok (.iaload, 1) := by decide +kernel
theorem dX3_save_53 : decode cX3_save 53 = .ok (.ireturn, 1) := by decide +kernel
theorem dX3_restore_0 : decode cX3_restore 0 = .ok (.aload_n 0, 1) := by decide +kernel
theorem dX3_restore_1 : decode cX3_restore 1 = .ok (.iload_n 1, 1) := by decide +kernel
theorem dX3_restore_2 : decode cX3_restore 2 = .ok (.i2l, 1) := by decide +kernel
theorem dX3_restore_3 : decode cX3_restore 3 = .ok (.lconst 0, 1) := by decide +kernel
theorem dX3_restore_4 : decode cX3_restore 4 = .ok (.lconst 1, 1) := by decide +kernel
theorem dX3_restore_5 : decode cX3_restore 5 = .ok (.invokestatic 40, 3) := by decide +kernel
theorem dX3_restore_8 : decode cX3_restore 8 = .ok (.ifCond .ne 7, 3) := by decide +kernel
theorem dX3_restore_11 : decode cX3_restore 11 = .ok (.iconst 1, 1) := by decide +kernel
theorem dX3_restore_12 : decode cX3_restore 12 = .ok (.goto 17, 3) := by decide +kernel
theorem dX3_restore_15 : decode cX3_restore 15 = .ok (.aload_n 0, 1) := by decide +kernel
theorem dX3_restore_16 : decode cX3_restore 16 = .ok (.getfield 25, 3) := by decide +kernel
theorem dX3_restore_19 : decode cX3_restore 19 = .ok (.iload_n 1, 1) := by decide +kernel
theorem dX3_restore_20 : decode cX3_restore 20 = .ok (.baload, 1) := by decide +kernel
theorem dX3_restore_21 : decode cX3_restore 21 = .ok (.ifCond .ne 7, 3) := by decide +kernel
theorem dX3_restore_24 : decode cX3_restore 24 = .ok (.iconst 2, 1) := by decide +kernel
theorem dX3_restore_25 : decode cX3_restore 25 = .ok (.goto 4, 3) := by decide +kernel
theorem dX3_restore_28 : decode cX3_restore 28 = .ok (.iconst 0, 1) := by decide +kernel
theorem dX3_restore_29 : decode cX3_restore 29 = .ok (.invokevirtual 130, 3) := by decide +kernel
theorem dX3_restore_32 : decode cX3_restore 32 = .ok (.ifCond .eq 5, 3) := by decide +kernel
theorem dX3_restore_35 : decode cX3_restore 35 = .ok (.iconst 0, 1) := by decide +kernel
theorem dX3_restore_36 : decode cX3_restore 36 = .ok (.ireturn, 1) := by decide +kernel
theorem dX3_restore_37 : decode cX3_restore 37 = .ok (.aload_n 0, 1) := by decide +kernel
theorem dX3_restore_38 : decode cX3_restore 38 = .ok (.getfield 22, 3) := by decide +kernel
theorem dX3_restore_41 : decode cX3_restore 41 = .ok (.bipush 121, 2) := by decide +kernel
theorem dX3_restore_43 : decode cX3_restore 43 = .ok (.iload_n 1, 1) := by decide +kernel
theorem dX3_restore_44 : decode cX3_restore 44 = .ok (.imul, 1) := by decide +kernel
theorem dX3_restore_45 : decode cX3_restore 45 = .ok (.aload_n 0, 1) := by decide +kernel
theorem dX3_restore_46 : decode cX3_restore 46 = .ok (.getfield 13, 3) := by decide +kernel
theorem dX3_restore_49 : decode cX3_restore 49 = .ok (.iconst 0, 1) := by decide +kernel
theorem dX3_restore_50 : decode cX3_restore 50 = .ok (.invokestatic 187, 3) := by decide +kernel
theorem dX3_restore_53 : decode cX3_restore 53 = .ok (.aload_n 0, 1) := by decide +kernel
theorem dX3_restore_54 : decode cX3_restore 54 = .ok (.iconst 0, 1) := by decide +kernel
theorem dX3_restore_55 : decode cX3_restore 55 = .ok (.putfield 191, 3) := by decide +kernel
theorem dX3_restore_58 : decode cX3_restore 58 = .ok (.aload_n 0, 1) := by decide +kernel
theorem dX3_restore_59 : decode cX3_restore 59 = .ok (.getfield 13, 3) := by decide +kernel
theorem dX3_restore_62 : decode cX3_restore 62 = .ok (.iconst 1, 1) := by decide +kernel
theorem dX3_restore_63 : decode cX3_restore 63 = .ok (.iaload, 1) := by decide +kernel
theorem dX3_restore_64 : decode cX3_restore 64 = .ok (.ireturn, 1) := by decide +kernel
theorem dL_append_0 : decode cL_append 0 = .ok (.aload_n 2, 1) := by decide +kernel
theorem dL_append_1 : decode cL_append 1 = .ok (.iconst 0, 1) := by decide +kernel
theorem dL_append_2 : decode cL_append 2 = .ok (.aload_n 0, 1) := by decide +kernel
theorem dL_append_3 : decode cL_append 3 = .ok (.iload_n 1, 1) := by decide +kernel
theorem dL_append_4 : decode cL_append 4 = .ok (.invokevirtual 7, 3) := by decide +kernel
theorem dL_append_7 : decode cL_append 7 = .ok (.i2l, 1) := by decide +kernel
theorem dL_append_8 : decode cL_append 8 = .ok (.lastore, 1) := by decide +kernel
theorem dL_append_9 : decode cL_append 9 = .ok (.goto 9, 3) := by decide +kernel
theorem dL_append_12 : decode cL_append 12 = .ok (.astore_n 3, 1) := by decide +kernel
theorem dL_append_13 : decode cL_append 13 = .ok (.iconst 1, 1) := by decide +kernel
theorem dL_append_14 : decode cL_append 14 = .ok (.ireturn, 1) := by decide +kernel
theorem dL_append_15 : decode cL_append 15 = .ok (.astore_n 3, 1) := by decide +kernel
theorem dL_append_16 : decode cL_append 16 = .ok (.iconst 2, 1) := by decide +kernel
theorem dL_append_17 : decode cL_append 17 = .ok (.ireturn, 1) := by decide +kernel
theorem dL_append_18 : decode cL_append 18 = .ok (.iconst 0, 1) := by decide +kernel
theorem dL_append_19 : decode cL_append 19 = .ok (.ireturn, 1) := by decide +kernel
theorem dL_load_0 : decode cL_load 0 = .ok (.aload_n 1, 1) := by decide +kernel
theorem dL_load_1 : decode cL_load 1 = .ok (.iconst 0, 1) := by decide +kernel
theorem dL_load_2 : decode cL_load 2 = .ok (.aload_n 0, 1) := by decide +kernel
theorem dL_load_3 : decode cL_load 3 = .ok (.invokevirtual 17, 3) := by decide +kernel
theorem dL_load_6 : decode cL_load 6 = .ok (.i2l, 1) := by decide +kernel
theorem dL_load_7 : decode cL_load 7 = .ok (.lastore, 1) := by decide +kernel
theorem dL_load_8 : decode cL_load 8 = .ok (.goto 6, 3) := by decide +kernel
theorem dL_load_11 : decode cL_load 11 = .ok (.astore_n 2, 1) := by decide +kernel
theorem dL_load_12 : decode cL_load 12 = .ok (.iconst 1, 1) := by decide +kernel
theorem dL_load_13 : decode cL_load 13 = .ok (.ireturn, 1) := by decide +kernel
theorem dL_load_14 : decode cL_load 14 = .ok (.iconst 0, 1) := by decide +kernel
theorem dL_load_15 : decode cL_load 15 = .ok (.ireturn, 1) := by decide +kernel
theorem dL_about_0 : decode cL_about 0 = .ok (.aload_n 2, 1) := by decide +kernel
theorem dL_about_1 : decode cL_about 1 = .ok (.iconst 0, 1) := by decide +kernel
theorem dL_about_2 : decode cL_about 2 = .ok (.aload_n 0, 1) := by decide +kernel
theorem dL_about_3 : decode cL_about 3 = .ok (.iload_n 1, 1) := by decide +kernel
theorem dL_about_4 : decode cL_about 4 = .ok (.invokevirtual 21, 3) := by decide +kernel
theorem dL_about_7 : decode cL_about 7 = .ok (.i2l, 1) := by decide +kernel
theorem dL_about_8 : decode cL_about 8 = .ok (.lastore, 1) := by decide +kernel
theorem dL_about_9 : decode cL_about 9 = .ok (.goto 6, 3) := by decide +kernel
theorem dL_about_12 : decode cL_about 12 = .ok (.astore_n 3, 1) := by decide +kernel
theorem dL_about_13 : decode cL_about 13 = .ok (.iconst 1, 1) := by decide +kernel
theorem dL_about_14 : decode cL_about 14 = .ok (.ireturn, 1) := by decide +kernel
theorem dL_about_15 : decode cL_about 15 = .ok (.iconst 0, 1) := by decide +kernel
theorem dL_about_16 : decode cL_about 16 = .ok (.ireturn, 1) := by decide +kernel
theorem dL_laneOf_0 : decode cL_laneOf 0 = .ok (.aload_n 3, 1) := by decide +kernel
theorem dL_laneOf_1 : decode cL_laneOf 1 = .ok (.iconst 0, 1) := by decide +kernel
theorem dL_laneOf_2 : decode cL_laneOf 2 = .ok (.aload_n 0, 1) := by decide +kernel
theorem dL_laneOf_3 : decode cL_laneOf 3 = .ok (.iload_n 1, 1) := by decide +kernel
theorem dL_laneOf_4 : decode cL_laneOf 4 = .ok (.iload_n 2, 1) := by decide +kernel
theorem dL_laneOf_5 : decode cL_laneOf 5 = .ok (.invokevirtual 24, 3) := by decide +kernel
theorem dL_laneOf_8 : decode cL_laneOf 8 = .ok (.i2l, 1) := by decide +kernel
theorem dL_laneOf_9 : decode cL_laneOf 9 = .ok (.lastore, 1) := by decide +kernel
theorem dL_laneOf_10 : decode cL_laneOf 10 = .ok (.goto 11, 3) := by decide +kernel
theorem dL_laneOf_13 : decode cL_laneOf 13 = .ok (.astore 4, 2) := by decide +kernel
theorem dL_laneOf_15 : decode cL_laneOf 15 = .ok (.iconst 1, 1) := by decide +kernel
theorem dL_laneOf_16 : decode cL_laneOf 16 = .ok (.ireturn, 1) := by decide +kernel
theorem dL_laneOf_17 : decode cL_laneOf 17 = .ok (.astore 4, 2) := by decide +kernel
theorem dL_laneOf_19 : decode cL_laneOf 19 = .ok (.iconst 2, 1) := by decide +kernel
theorem dL_laneOf_20 : decode cL_laneOf 20 = .ok (.ireturn, 1) := by decide +kernel
theorem dL_laneOf_21 : decode cL_laneOf 21 = .ok (.iconst 0, 1) := by decide +kernel
theorem dL_laneOf_22 : decode cL_laneOf 22 = .ok (.ireturn, 1) := by decide +kernel
theorem dL_vehicle_0 : decode cL_vehicle 0 = .ok (.aload 4, 2) := by decide +kernel
theorem dL_vehicle_2 : decode cL_vehicle 2 = .ok (.iconst 0, 1) := by decide +kernel
theorem dL_vehicle_3 : decode cL_vehicle 3 = .ok (.aload_n 0, 1) := by decide +kernel
theorem dL_vehicle_4 : decode cL_vehicle 4 = .ok (.iload_n 1, 1) := by decide +kernel
theorem dL_vehicle_5 : decode cL_vehicle 5 = .ok (.iload_n 2, 1) := by decide +kernel
theorem dL_vehicle_6 : decode cL_vehicle 6 = .ok (.iload_n 3, 1) := by decide +kernel
theorem dL_vehicle_7 : decode cL_vehicle 7 = .ok (.invokevirtual 30, 3) := by decide +kernel
theorem dL_vehicle_10 : decode cL_vehicle 10 = .ok (.i2l, 1) := by decide +kernel
theorem dL_vehicle_11 : decode cL_vehicle 11 = .ok (.lastore, 1) := by decide +kernel
theorem dL_vehicle_12 : decode cL_vehicle 12 = .ok (.goto 11, 3) := by decide +kernel
theorem dL_vehicle_15 : decode cL_vehicle 15 = .ok (.astore 5, 2) := by decide +kernel
theorem dL_vehicle_17 : decode cL_vehicle 17 = .ok (.iconst 1, 1) := by decide +kernel
theorem dL_vehicle_18 : decode cL_vehicle 18 = .ok (.ireturn, 1) := by decide +kernel
theorem dL_vehicle_19 : decode cL_vehicle 19 = .ok (.astore 5, 2) := by decide +kernel
theorem dL_vehicle_21 : decode cL_vehicle 21 = .ok (.iconst 2, 1) := by decide +kernel
theorem dL_vehicle_22 : decode cL_vehicle 22 = .ok (.ireturn, 1) := by decide +kernel
theorem dL_vehicle_23 : decode cL_vehicle 23 = .ok (.iconst 0, 1) := by decide +kernel
theorem dL_vehicle_24 : decode cL_vehicle 24 = .ok (.ireturn, 1) := by decide +kernel
theorem dL_why_0 : decode cL_why 0 = .ok (.aload_n 2, 1) := by decide +kernel
theorem dL_why_1 : decode cL_why 1 = .ok (.iconst 0, 1) := by decide +kernel
theorem dL_why_2 : decode cL_why 2 = .ok (.aload_n 0, 1) := by decide +kernel
theorem dL_why_3 : decode cL_why 3 = .ok (.iload_n 1, 1) := by decide +kernel
theorem dL_why_4 : decode cL_why 4 = .ok (.invokevirtual 34, 3) := by decide +kernel
theorem dL_why_7 : decode cL_why 7 = .ok (.i2l, 1) := by decide +kernel
theorem dL_why_8 : decode cL_why 8 = .ok (.lastore, 1) := by decide +kernel
theorem dL_why_9 : decode cL_why 9 = .ok (.goto 6, 3) := by decide +kernel
theorem dL_why_12 : decode cL_why 12 = .ok (.astore_n 3, 1) := by decide +kernel
theorem dL_why_13 : decode cL_why 13 = .ok (.iconst 1, 1) := by decide +kernel
theorem dL_why_14 : decode cL_why 14 = .ok (.ireturn, 1) := by decide +kernel
theorem dL_why_15 : decode cL_why 15 = .ok (.iconst 0, 1) := by decide +kernel
theorem dL_why_16 : decode cL_why 16 = .ok (.ireturn, 1) := by decide +kernel
theorem dL_setting_0 : decode cL_setting 0 = .ok (.aload_n 2, 1) := by decide +kernel
theorem dL_setting_1 : decode cL_setting 1 = .ok (.iconst 0, 1) := by decide +kernel
theorem dL_setting_2 : decode cL_setting 2 = .ok (.aload_n 0, 1) := by decide +kernel
theorem dL_setting_3 : decode cL_setting 3 = .ok (.iload_n 1, 1) := by decide +kernel
theorem dL_setting_4 : decode cL_setting 4 = .ok (.invokevirtual 37, 3) := by decide +kernel
theorem dL_setting_7 : decode cL_setting 7 = .ok (.i2l, 1) := by decide +kernel
theorem dL_setting_8 : decode cL_setting 8 = .ok (.lastore, 1) := by decide +kernel
theorem dL_setting_9 : decode cL_setting 9 = .ok (.goto 6, 3) := by decide +kernel
theorem dL_setting_12 : decode cL_setting 12 = .ok (.astore_n 3, 1) := by decide +kernel
theorem dL_setting_13 : decode cL_setting 13 = .ok (.iconst 1, 1) := by decide +kernel
theorem dL_setting_14 : decode cL_setting 14 = .ok (.ireturn, 1) := by decide +kernel
theorem dL_setting_15 : decode cL_setting 15 = .ok (.iconst 0, 1) := by decide +kernel
theorem dL_setting_16 : decode cL_setting 16 = .ok (.ireturn, 1) := by decide +kernel
theorem dL_lane_0 : decode cL_lane 0 = .ok (.aload_n 1, 1) := by decide +kernel
theorem dL_lane_1 : decode cL_lane 1 = .ok (.iconst 0, 1) := by decide +kernel
theorem dL_lane_2 : decode cL_lane 2 = .ok (.aload_n 0, 1) := by decide +kernel
theorem dL_lane_3 : decode cL_lane 3 = .ok (.invokevirtual 40, 3) := by decide +kernel
theorem dL_lane_6 : decode cL_lane 6 = .ok (.i2l, 1) := by decide +kernel
theorem dL_lane_7 : decode cL_lane 7 = .ok (.lastore, 1) := by decide +kernel
theorem dL_lane_8 : decode cL_lane 8 = .ok (.goto 6, 3) := by decide +kernel
theorem dL_lane_11 : decode cL_lane 11 = .ok (.astore_n 2, 1) := by decide +kernel
theorem dL_lane_12 : decode cL_lane 12 = .ok (.iconst 1, 1) := by decide +kernel
theorem dL_lane_13 : decode cL_lane 13 = .ok (.ireturn, 1) := by decide +kernel
theorem dL_lane_14 : decode cL_lane 14 = .ok (.iconst 0, 1) := by decide +kernel
theorem dL_lane_15 : decode cL_lane 15 = .ok (.ireturn, 1) := by decide +kernel
theorem dL_arrive_0 : decode cL_arrive 0 = .ok (.aload 5, 2) := by decide +kernel
theorem dL_arrive_2 : decode cL_arrive 2 = .ok (.iconst 0, 1) := by decide +kernel
theorem dL_arrive_3 : decode cL_arrive 3 = .ok (.aload_n 0, 1) := by decide +kernel
theorem dL_arrive_4 : decode cL_arrive 4 = .ok (.iload_n 1, 1) := by decide +kernel
theorem dL_arrive_5 : decode cL_arrive 5 = .ok (.iload_n 2, 1) := by decide +kernel
theorem dL_arrive_6 : decode cL_arrive 6 = .ok (.iload_n 3, 1) := by decide +kernel
theorem dL_arrive_7 : decode cL_arrive 7 = .ok (.iload 4, 2) := by decide +kernel
theorem dL_arrive_9 : decode cL_arrive 9 = .ok (.invokevirtual 43, 3) := by decide +kernel
theorem dL_arrive_12 : decode cL_arrive 12 = .ok (.i2l, 1) := by decide +kernel
theorem dL_arrive_13 : decode cL_arrive 13 = .ok (.lastore, 1) := by decide +kernel
theorem dL_arrive_14 : decode cL_arrive 14 = .ok (.goto 15, 3) := by decide +kernel
theorem dL_arrive_17 : decode cL_arrive 17 = .ok (.astore 6, 2) := by decide +kernel
theorem dL_arrive_19 : decode cL_arrive 19 = .ok (.iconst 1, 1) := by decide +kernel
theorem dL_arrive_20 : decode cL_arrive 20 = .ok (.ireturn, 1) := by decide +kernel
theorem dL_arrive_21 : decode cL_arrive 21 = .ok (.astore 6, 2) := by decide +kernel
theorem dL_arrive_23 : decode cL_arrive 23 = .ok (.iconst 2, 1) := by decide +kernel
theorem dL_arrive_24 : decode cL_arrive 24 = .ok (.ireturn, 1) := by decide +kernel
theorem dL_arrive_25 : decode cL_arrive 25 = .ok (.astore 6, 2) := by decide +kernel
theorem dL_arrive_27 : decode cL_arrive 27 = .ok (.iconst 3, 1) := by decide +kernel
theorem dL_arrive_28 : decode cL_arrive 28 = .ok (.ireturn, 1) := by decide +kernel
theorem dL_arrive_29 : decode cL_arrive 29 = .ok (.iconst 0, 1) := by decide +kernel
theorem dL_arrive_30 : decode cL_arrive 30 = .ok (.ireturn, 1) := by decide +kernel
theorem dL_loop_0 : decode cL_loop 0 = .ok (.aload_n 3, 1) := by decide +kernel
theorem dL_loop_1 : decode cL_loop 1 = .ok (.iconst 0, 1) := by decide +kernel
theorem dL_loop_2 : decode cL_loop 2 = .ok (.aload_n 0, 1) := by decide +kernel
theorem dL_loop_3 : decode cL_loop 3 = .ok (.iload_n 1, 1) := by decide +kernel
theorem dL_loop_4 : decode cL_loop 4 = .ok (.iload_n 2, 1) := by decide +kernel
theorem dL_loop_5 : decode cL_loop 5 = .ok (.invokevirtual 47, 3) := by decide +kernel
theorem dL_loop_8 : decode cL_loop 8 = .ok (.i2l, 1) := by decide +kernel
theorem dL_loop_9 : decode cL_loop 9 = .ok (.lastore, 1) := by decide +kernel
theorem dL_loop_10 : decode cL_loop 10 = .ok (.goto 7, 3) := by decide +kernel
theorem dL_loop_13 : decode cL_loop 13 = .ok (.astore 4, 2) := by decide +kernel
theorem dL_loop_15 : decode cL_loop 15 = .ok (.iconst 1, 1) := by decide +kernel
theorem dL_loop_16 : decode cL_loop 16 = .ok (.ireturn, 1) := by decide +kernel
theorem dL_loop_17 : decode cL_loop 17 = .ok (.iconst 0, 1) := by decide +kernel
theorem dL_loop_18 : decode cL_loop 18 = .ok (.ireturn, 1) := by decide +kernel
theorem dL_mend_0 : decode cL_mend 0 = .ok (.aload_n 2, 1) := by decide +kernel
theorem dL_mend_1 : decode cL_mend 1 = .ok (.iconst 0, 1) := by decide +kernel
theorem dL_mend_2 : decode cL_mend 2 = .ok (.aload_n 0, 1) := by decide +kernel
theorem dL_mend_3 : decode cL_mend 3 = .ok (.iload_n 1, 1) := by decide +kernel
theorem dL_mend_4 : decode cL_mend 4 = .ok (.invokevirtual 51, 3) := by decide +kernel
theorem dL_mend_7 : decode cL_mend 7 = .ok (.i2l, 1) := by decide +kernel
theorem dL_mend_8 : decode cL_mend 8 = .ok (.lastore, 1) := by decide +kernel
theorem dL_mend_9 : decode cL_mend 9 = .ok (.goto 9, 3) := by decide +kernel
theorem dL_mend_12 : decode cL_mend 12 = .ok (.astore_n 3, 1) := by decide +kernel
theorem dL_mend_13 : decode cL_mend 13 = .ok (.iconst 1, 1) := by decide +kernel
theorem dL_mend_14 : decode cL_mend 14 = .ok (.ireturn, 1) := by decide +kernel
theorem dL_mend_15 : decode cL_mend 15 = .ok (.astore_n 3, 1) := by decide +kernel
theorem dL_mend_16 : decode cL_mend 16 = .ok (.iconst 2, 1) := by decide +kernel
theorem dL_mend_17 : decode cL_mend 17 = .ok (.ireturn, 1) := by decide +kernel
theorem dL_mend_18 : decode cL_mend 18 = .ok (.iconst 0, 1) := by decide +kernel
theorem dL_mend_19 : decode cL_mend 19 = .ok (.ireturn, 1) := by decide +kernel
theorem dL_run_0 : decode cL_run 0 = .ok (.aload_n 2, 1) := by decide +kernel
theorem dL_run_1 : decode cL_run 1 = .ok (.iconst 0, 1) := by decide +kernel
theorem dL_run_2 : decode cL_run 2 = .ok (.aload_n 0, 1) := by decide +kernel
theorem dL_run_3 : decode cL_run 3 = .ok (.iload_n 1, 1) := by decide +kernel
theorem dL_run_4 : decode cL_run 4 = .ok (.invokevirtual 54, 3) := by decide +kernel
theorem dL_run_7 : decode cL_run 7 = .ok (.i2l, 1) := by decide +kernel
theorem dL_run_8 : decode cL_run 8 = .ok (.lastore, 1) := by decide +kernel
theorem dL_run_9 : decode cL_run 9 = .ok (.goto 6, 3) := by decide +kernel
theorem dL_run_12 : decode cL_run 12 = .ok (.astore_n 3, 1) := by decide +kernel
theorem dL_run_13 : decode cL_run 13 = .ok (.iconst 1, 1) := by decide +kernel
theorem dL_run_14 : decode cL_run 14 = .ok (.ireturn, 1) := by decide +kernel
theorem dL_run_15 : decode cL_run 15 = .ok (.iconst 0, 1) := by decide +kernel
theorem dL_run_16 : decode cL_run 16 = .ok (.ireturn, 1) := by decide +kernel
theorem dL_set_0 : decode cL_set 0 = .ok (.aload_n 3, 1) := by decide +kernel
theorem dL_set_1 : decode cL_set 1 = .ok (.iconst 0, 1) := by decide +kernel
theorem dL_set_2 : decode cL_set 2 = .ok (.aload_n 0, 1) := by decide +kernel
theorem dL_set_3 : decode cL_set 3 = .ok (.iload_n 1, 1) := by decide +kernel
theorem dL_set_4 : decode cL_set 4 = .ok (.iload_n 2, 1) := by decide +kernel
theorem dL_set_5 : decode cL_set 5 = .ok (.invokevirtual 57, 3) := by decide +kernel
theorem dL_set_8 : decode cL_set 8 = .ok (.i2l, 1) := by decide +kernel
theorem dL_set_9 : decode cL_set 9 = .ok (.lastore, 1) := by decide +kernel
theorem dL_set_10 : decode cL_set 10 = .ok (.goto 7, 3) := by decide +kernel
theorem dL_set_13 : decode cL_set 13 = .ok (.astore 4, 2) := by decide +kernel
theorem dL_set_15 : decode cL_set 15 = .ok (.iconst 1, 1) := by decide +kernel
theorem dL_set_16 : decode cL_set 16 = .ok (.ireturn, 1) := by decide +kernel
theorem dL_set_17 : decode cL_set 17 = .ok (.iconst 0, 1) := by decide +kernel
theorem dL_set_18 : decode cL_set 18 = .ok (.ireturn, 1) := by decide +kernel
theorem dL_undo_0 : decode cL_undo 0 = .ok (.aload_n 1, 1) := by decide +kernel
theorem dL_undo_1 : decode cL_undo 1 = .ok (.iconst 0, 1) := by decide +kernel
theorem dL_undo_2 : decode cL_undo 2 = .ok (.aload_n 0, 1) := by decide +kernel
theorem dL_undo_3 : decode cL_undo 3 = .ok (.invokevirtual 60, 3) := by decide +kernel
theorem dL_undo_6 : decode cL_undo 6 = .ok (.i2l, 1) := by decide +kernel
theorem dL_undo_7 : decode cL_undo 7 = .ok (.lastore, 1) := by decide +kernel
theorem dL_undo_8 : decode cL_undo 8 = .ok (.goto 6, 3) := by decide +kernel
theorem dL_undo_11 : decode cL_undo 11 = .ok (.astore_n 2, 1) := by decide +kernel
theorem dL_undo_12 : decode cL_undo 12 = .ok (.iconst 1, 1) := by decide +kernel
theorem dL_undo_13 : decode cL_undo 13 = .ok (.ireturn, 1) := by decide +kernel
theorem dL_undo_14 : decode cL_undo 14 = .ok (.iconst 0, 1) := by decide +kernel
theorem dL_undo_15 : decode cL_undo 15 = .ok (.ireturn, 1) := by decide +kernel
theorem dL_emptyIn_0 : decode cL_emptyIn 0 = .ok (.aload_n 2, 1) := by decide +kernel
theorem dL_emptyIn_1 : decode cL_emptyIn 1 = .ok (.iconst 0, 1) := by decide +kernel
theorem dL_emptyIn_2 : decode cL_emptyIn 2 = .ok (.aload_n 0, 1) := by decide +kernel
theorem dL_emptyIn_3 : decode cL_emptyIn 3 = .ok (.iload_n 1, 1) := by decide +kernel
theorem dL_emptyIn_4 : decode cL_emptyIn 4 = .ok (.invokevirtual 63, 3) := by decide +kernel
theorem dL_emptyIn_7 : decode cL_emptyIn 7 = .ok (.i2l, 1) := by decide +kernel
theorem dL_emptyIn_8 : decode cL_emptyIn 8 = .ok (.lastore, 1) := by decide +kernel
theorem dL_emptyIn_9 : decode cL_emptyIn 9 = .ok (.goto 6, 3) := by decide +kernel
theorem dL_emptyIn_12 : decode cL_emptyIn 12 = .ok (.astore_n 3, 1) := by decide +kernel
theorem dL_emptyIn_13 : decode cL_emptyIn 13 = .ok (.iconst 1, 1) := by decide +kernel
theorem dL_emptyIn_14 : decode cL_emptyIn 14 = .ok (.ireturn, 1) := by decide +kernel
theorem dL_emptyIn_15 : decode cL_emptyIn 15 = .ok (.iconst 0, 1) := by decide +kernel
theorem dL_emptyIn_16 : decode cL_emptyIn 16 = .ok (.ireturn, 1) := by decide +kernel
theorem dL_throughIn_0 : decode cL_throughIn 0 = .ok (.aload_n 3, 1) := by decide +kernel
theorem dL_throughIn_1 : decode cL_throughIn 1 = .ok (.iconst 0, 1) := by decide +kernel
theorem dL_throughIn_2 : decode cL_throughIn 2 = .ok (.aload_n 0, 1) := by decide +kernel
theorem dL_throughIn_3 : decode cL_throughIn 3 = .ok (.iload_n 1, 1) := by decide +kernel
theorem dL_throughIn_4 : decode cL_throughIn 4 = .ok (.iload_n 2, 1) := by decide +kernel
theorem dL_throughIn_5 : decode cL_throughIn 5 = .ok (.invokevirtual 66, 3) := by decide +kernel
theorem dL_throughIn_8 : decode cL_throughIn 8 = .ok (.i2l, 1) := by decide +kernel
theorem dL_throughIn_9 : decode cL_throughIn 9 = .ok (.lastore, 1) := by decide +kernel
theorem dL_throughIn_10 : decode cL_throughIn 10 = .ok (.goto 7, 3) := by decide +kernel
theorem dL_throughIn_13 : decode cL_throughIn 13 = .ok (.astore 4, 2) := by decide +kernel
theorem dL_throughIn_15 : decode cL_throughIn 15 = .ok (.iconst 1, 1) := by decide +kernel
theorem dL_throughIn_16 : decode cL_throughIn 16 = .ok (.ireturn, 1) := by decide +kernel
theorem dL_throughIn_17 : decode cL_throughIn 17 = .ok (.iconst 0, 1) := by decide +kernel
theorem dL_throughIn_18 : decode cL_throughIn 18 = .ok (.ireturn, 1) := by decide +kernel
theorem dL_bestLane_0 : decode cL_bestLane 0 = .ok (.aload_n 2, 1) := by decide +kernel
theorem dL_bestLane_1 : decode cL_bestLane 1 = .ok (.iconst 0, 1) := by decide +kernel
theorem dL_bestLane_2 : decode cL_bestLane 2 = .ok (.aload_n 0, 1) := by decide +kernel
theorem dL_bestLane_3 : decode cL_bestLane 3 = .ok (.iload_n 1, 1) := by decide +kernel
theorem dL_bestLane_4 : decode cL_bestLane 4 = .ok (.invokevirtual 69, 3) := by decide +kernel
theorem dL_bestLane_7 : decode cL_bestLane 7 = .ok (.i2l, 1) := by decide +kernel
theorem dL_bestLane_8 : decode cL_bestLane 8 = .ok (.lastore, 1) := by decide +kernel
theorem dL_bestLane_9 : decode cL_bestLane 9 = .ok (.goto 6, 3) := by decide +kernel
theorem dL_bestLane_12 : decode cL_bestLane 12 = .ok (.astore_n 3, 1) := by decide +kernel
theorem dL_bestLane_13 : decode cL_bestLane 13 = .ok (.iconst 1, 1) := by decide +kernel
theorem dL_bestLane_14 : decode cL_bestLane 14 = .ok (.ireturn, 1) := by decide +kernel
theorem dL_bestLane_15 : decode cL_bestLane 15 = .ok (.iconst 0, 1) := by decide +kernel
theorem dL_bestLane_16 : decode cL_bestLane 16 = .ok (.ireturn, 1) := by decide +kernel
theorem dL_coming_0 : decode cL_coming 0 = .ok (.aload_n 3, 1) := by decide +kernel
theorem dL_coming_1 : decode cL_coming 1 = .ok (.iconst 0, 1) := by decide +kernel
theorem dL_coming_2 : decode cL_coming 2 = .ok (.aload_n 0, 1) := by decide +kernel
theorem dL_coming_3 : decode cL_coming 3 = .ok (.iload_n 1, 1) := by decide +kernel
theorem dL_coming_4 : decode cL_coming 4 = .ok (.iload_n 2, 1) := by decide +kernel
theorem dL_coming_5 : decode cL_coming 5 = .ok (.invokevirtual 72, 3) := by decide +kernel
theorem dL_coming_8 : decode cL_coming 8 = .ok (.i2l, 1) := by decide +kernel
theorem dL_coming_9 : decode cL_coming 9 = .ok (.lastore, 1) := by decide +kernel
theorem dL_coming_10 : decode cL_coming 10 = .ok (.goto 7, 3) := by decide +kernel
theorem dL_coming_13 : decode cL_coming 13 = .ok (.astore 4, 2) := by decide +kernel
theorem dL_coming_15 : decode cL_coming 15 = .ok (.iconst 1, 1) := by decide +kernel
theorem dL_coming_16 : decode cL_coming 16 = .ok (.ireturn, 1) := by decide +kernel
theorem dL_coming_17 : decode cL_coming 17 = .ok (.iconst 0, 1) := by decide +kernel
theorem dL_coming_18 : decode cL_coming 18 = .ok (.ireturn, 1) := by decide +kernel
theorem dL_hitsIn_0 : decode cL_hitsIn 0 = .ok (.aload_n 2, 1) := by decide +kernel
theorem dL_hitsIn_1 : decode cL_hitsIn 1 = .ok (.iconst 0, 1) := by decide +kernel
theorem dL_hitsIn_2 : decode cL_hitsIn 2 = .ok (.aload_n 0, 1) := by decide +kernel
theorem dL_hitsIn_3 : decode cL_hitsIn 3 = .ok (.iload_n 1, 1) := by decide +kernel
theorem dL_hitsIn_4 : decode cL_hitsIn 4 = .ok (.invokevirtual 75, 3) := by decide +kernel
theorem dL_hitsIn_7 : decode cL_hitsIn 7 = .ok (.i2l, 1) := by decide +kernel
theorem dL_hitsIn_8 : decode cL_hitsIn 8 = .ok (.lastore, 1) := by decide +kernel
theorem dL_hitsIn_9 : decode cL_hitsIn 9 = .ok (.goto 6, 3) := by decide +kernel
theorem dL_hitsIn_12 : decode cL_hitsIn 12 = .ok (.astore_n 3, 1) := by decide +kernel
theorem dL_hitsIn_13 : decode cL_hitsIn 13 = .ok (.iconst 1, 1) := by decide +kernel
theorem dL_hitsIn_14 : decode cL_hitsIn 14 = .ok (.ireturn, 1) := by decide +kernel
theorem dL_hitsIn_15 : decode cL_hitsIn 15 = .ok (.iconst 0, 1) := by decide +kernel
theorem dL_hitsIn_16 : decode cL_hitsIn 16 = .ok (.ireturn, 1) := by decide +kernel
theorem dL_runScript_0 : decode cL_runScript 0 = .ok (.aload 4, 2) := by decide +kernel
theorem dL_runScript_2 : decode cL_runScript 2 = .ok (.iconst 0, 1) := by decide +kernel
theorem dL_runScript_3 : decode cL_runScript 3 = .ok (.aload_n 0, 1) := by decide +kernel
theorem dL_runScript_4 : decode cL_runScript 4 = .ok (.iload_n 1, 1) := by decide +kernel
theorem dL_runScript_5 : decode cL_runScript 5 = .ok (.lload_n 2, 1) := by decide +kernel
theorem dL_runScript_6 : decode cL_runScript 6 = .ok (.invokevirtual 78, 3) := by decide +kernel
theorem dL_runScript_9 : decode cL_runScript 9 = .ok (.i2l, 1) := by decide +kernel
theorem dL_runScript_10 : decode cL_runScript 10 = .ok (.lastore, 1) := by decide +kernel
theorem dL_runScript_11 : decode cL_runScript 11 = .ok (.goto 7, 3) := by decide +kernel
theorem dL_runScript_14 : decode cL_runScript 14 = .ok (.astore 5, 2) := by decide +kernel
theorem dL_runScript_16 : decode cL_runScript 16 = .ok (.iconst 1, 1) := by decide +kernel
theorem dL_runScript_17 : decode cL_runScript 17 = .ok (.ireturn, 1) := by decide +kernel
theorem dL_runScript_18 : decode cL_runScript 18 = .ok (.iconst 0, 1) := by decide +kernel
theorem dL_runScript_19 : decode cL_runScript 19 = .ok (.ireturn, 1) := by decide +kernel
theorem dL_simulate_0 : decode cL_simulate 0 = .ok (.aload 4, 2) := by decide +kernel
theorem dL_simulate_2 : decode cL_simulate 2 = .ok (.iconst 0, 1) := by decide +kernel
theorem dL_simulate_3 : decode cL_simulate 3 = .ok (.aload_n 0, 1) := by decide +kernel
theorem dL_simulate_4 : decode cL_simulate 4 = .ok (.lload_n 1, 1) := by decide +kernel
theorem dL_simulate_5 : decode cL_simulate 5 = .ok (.iload_n 3, 1) := by decide +kernel
theorem dL_simulate_6 : decode cL_simulate 6 = .ok (.invokevirtual 82, 3) := by decide +kernel
theorem dL_simulate_9 : decode cL_simulate 9 = .ok (.i2l, 1) := by decide +kernel
theorem dL_simulate_10 : decode cL_simulate 10 = .ok (.lastore, 1) := by decide +kernel
theorem dL_simulate_11 : decode cL_simulate 11 = .ok (.goto 7, 3) := by decide +kernel
theorem dL_simulate_14 : decode cL_simulate 14 = .ok (.astore 5, 2) := by decide +kernel
theorem dL_simulate_16 : decode cL_simulate 16 = .ok (.iconst 1, 1) := by decide +kernel
theorem dL_simulate_17 : decode cL_simulate 17 = .ok (.ireturn, 1) := by decide +kernel
theorem dL_simulate_18 : decode cL_simulate 18 = .ok (.iconst 0, 1) := by decide +kernel
theorem dL_simulate_19 : decode cL_simulate 19 = .ok (.ireturn, 1) := by decide +kernel
theorem dL_save_0 : decode cL_save 0 = .ok (.aload_n 2, 1) := by decide +kernel
theorem dL_save_1 : decode cL_save 1 = .ok (.iconst 0, 1) := by decide +kernel
theorem dL_save_2 : decode cL_save 2 = .ok (.aload_n 0, 1) := by decide +kernel
theorem dL_save_3 : decode cL_save 3 = .ok (.iload_n 1, 1) := by decide +kernel
theorem dL_save_4 : decode cL_save 4 = .ok (.invokevirtual 86, 3) := by decide +kernel
theorem dL_save_7 : decode cL_save 7 = .ok (.i2l, 1) := by decide +kernel
theorem dL_save_8 : decode cL_save 8 = .ok (.lastore, 1) := by decide +kernel
theorem dL_save_9 : decode cL_save 9 = .ok (.goto 6, 3) := by decide +kernel
theorem dL_save_12 : decode cL_save 12 = .ok (.astore_n 3, 1) := by decide +kernel
theorem dL_save_13 : decode cL_save 13 = .ok (.iconst 1, 1) := by decide +kernel
theorem dL_save_14 : decode cL_save 14 = .ok (.ireturn, 1) := by decide +kernel
theorem dL_save_15 : decode cL_save 15 = .ok (.iconst 0, 1) := by decide +kernel
theorem dL_save_16 : decode cL_save 16 = .ok (.ireturn, 1) := by decide +kernel
theorem dL_restore_0 : decode cL_restore 0 = .ok (.aload_n 2, 1) := by decide +kernel
theorem dL_restore_1 : decode cL_restore 1 = .ok (.iconst 0, 1) := by decide +kernel
theorem dL_restore_2 : decode cL_restore 2 = .ok (.aload_n 0, 1) := by decide +kernel
theorem dL_restore_3 : decode cL_restore 3 = .ok (.iload_n 1, 1) := by decide +kernel
theorem dL_restore_4 : decode cL_restore 4 = .ok (.invokevirtual 89, 3) := by decide +kernel
theorem dL_restore_7 : decode cL_restore 7 = .ok (.i2l, 1) := by decide +kernel
theorem dL_restore_8 : decode cL_restore 8 = .ok (.lastore, 1) := by decide +kernel
theorem dL_restore_9 : decode cL_restore 9 = .ok (.goto 9, 3) := by decide +kernel
theorem dL_restore_12 : decode cL_restore 12 = .ok (.astore_n 3, 1) := by decide +kernel
theorem dL_restore_13 : decode cL_restore 13 = .ok (.iconst 1, 1) := by decide +kernel
theorem dL_restore_14 : decode cL_restore 14 = .ok (.ireturn, 1) := by decide +kernel
theorem dL_restore_15 : decode cL_restore 15 = .ok (.astore_n 3, 1) := by decide +kernel
theorem dL_restore_16 : decode cL_restore 16 = .ok (.iconst 2, 1) := by decide +kernel
theorem dL_restore_17 : decode cL_restore 17 = .ok (.ireturn, 1) := by decide +kernel
theorem dL_restore_18 : decode cL_restore 18 = .ok (.iconst 0, 1) := by decide +kernel
theorem dL_restore_19 : decode cL_restore 19 = .ok (.ireturn, 1) := by decide +kernel
theorem dL_law_0 : decode cL_law 0 = .ok (.new 8, 3) := by decide +kernel
theorem dL_law_3 : decode cL_law 3 = .ok (.dup, 1) := by decide +kernel
theorem dL_law_4 : decode cL_law 4 = .ok (.invokespecial 92, 3) := by decide +kernel
theorem dL_law_7 : decode cL_law 7 = .ok (.astore_n 1, 1) := by decide +kernel
theorem dL_law_8 : decode cL_law 8 = .ok (.new 93, 3) := by decide +kernel
theorem dL_law_11 : decode cL_law 11 = .ok (.dup, 1) := by decide +kernel
theorem dL_law_12 : decode cL_law 12 = .ok (.invokespecial 95, 3) := by decide +kernel
theorem dL_law_15 : decode cL_law 15 = .ok (.astore_n 2, 1) := by decide +kernel
theorem dL_law_16 : decode cL_law 16 = .ok (.iconst 1, 1) := by decide +kernel
theorem dL_law_17 : decode cL_law 17 = .ok (.newarray .long, 2) := by decide +kernel
theorem dL_law_19 : decode cL_law 19 = .ok (.astore_n 3, 1) := by decide +kernel
theorem dL_law_20 : decode cL_law 20 = .ok (.iconst 0, 1) := by decide +kernel
theorem dL_law_21 : decode cL_law 21 = .ok (.istore 4, 2) := by decide +kernel
theorem dL_law_23 : decode cL_law 23 = .ok (.iload 4, 2) := by decide +kernel
theorem dL_law_25 : decode cL_law 25 = .ok (.aload_n 0, 1) := by decide +kernel
theorem dL_law_26 : decode cL_law 26 = .ok (.arraylength, 1) := by decide +kernel
theorem dL_law_27 : decode cL_law 27 = .ok (.iconst 5, 1) := by decide +kernel
theorem dL_law_28 : decode cL_law 28 = .ok (.isub, 1) := by decide +kernel
theorem dL_law_29 : decode cL_law 29 = .ok (.if_icmp .gt 1663, 3) := by decide +kernel
theorem dL_law_32 : decode cL_law 32 = .ok (.aload_n 0, 1) := by decide +kernel
theorem dL_law_33 : decode cL_law 33 = .ok (.iload 4, 2) := by decide +kernel
theorem dL_law_35 : decode cL_law 35 = .ok (.iaload, 1) := by decide +kernel
theorem dL_law_36 : decode cL_law 36 = .ok (.bipush 31, 2) := by decide +kernel
theorem dL_law_38 : decode cL_law 38 = .ok (.iand, 1) := by decide +kernel
theorem dL_law_39 : decode cL_law 39 = .ok (.tableswitch 1647 0 24 #[113, 169, 182, 195, 239, 295, 363, 443, 499, 555, 599, 723, 807, 863, 919, 987, 1031, 1087, 1155, 1211, 1279, 1335, 1435, 1535, 1591], 113) := by decide +kernel
theorem dL_law_152 : decode cL_law 152 = .ok (.aload_n 1, 1) := by decide +kernel
theorem dL_law_153 : decode cL_law 153 = .ok (.aload_n 0, 1) := by decide +kernel
theorem dL_law_154 : decode cL_law 154 = .ok (.iload 4, 2) := by decide +kernel
theorem dL_law_156 : decode cL_law 156 = .ok (.iconst 1, 1) := by decide +kernel
theorem dL_law_157 : decode cL_law 157 = .ok (.iadd, 1) := by decide +kernel
theorem dL_law_158 : decode cL_law 158 = .ok (.iaload, 1) := by decide +kernel
theorem dL_law_159 : decode cL_law 159 = .ok (.aload_n 3, 1) := by decide +kernel
theorem dL_law_160 : decode cL_law 160 = .ok (.invokestatic 96, 3) := by decide +kernel
theorem dL_law_163 : decode cL_law 163 = .ok (.istore 5, 2) := by decide +kernel
theorem dL_law_165 : decode cL_law 165 = .ok (.aload_n 2, 1) := by decide +kernel
theorem dL_law_166 : decode cL_law 166 = .ok (.aload_n 0, 1) := by decide +kernel
theorem dL_law_167 : decode cL_law 167 = .ok (.iload 4, 2) := by decide +kernel
theorem dL_law_169 : decode cL_law 169 = .ok (.iconst 1, 1) := by decide +kernel
theorem dL_law_170 : decode cL_law 170 = .ok (.iadd, 1) := by decide +kernel
theorem dL_law_171 : decode cL_law 171 = .ok (.iaload, 1) := by decide +kernel
theorem dL_law_172 : decode cL_law 172 = .ok (.invokevirtual 101, 3) := by decide +kernel
theorem dL_law_175 : decode cL_law 175 = .ok (.istore 6, 2) := by decide +kernel
theorem dL_law_177 : decode cL_law 177 = .ok (.aload_n 2, 1) := by decide +kernel
theorem dL_law_178 : decode cL_law 178 = .ok (.invokevirtual 102, 3) := by decide +kernel
theorem dL_law_181 : decode cL_law 181 = .ok (.iload 5, 2) := by decide +kernel
theorem dL_law_183 : decode cL_law 183 = .ok (.if_icmp .eq 5, 3) := by decide +kernel
theorem dL_law_186 : decode cL_law 186 = .ok (.iconst 0, 1) := by decide +kernel
theorem dL_law_187 : decode cL_law 187 = .ok (.ireturn, 1) := by decide +kernel
theorem dL_law_188 : decode cL_law 188 = .ok (.iload 5, 2) := by decide +kernel
theorem dL_law_190 : decode cL_law 190 = .ok (.ifCond .ne 15, 3) := by decide +kernel
theorem dL_law_193 : decode cL_law 193 = .ok (.aload_n 3, 1) := by decide +kernel
theorem dL_law_194 : decode cL_law 194 = .ok (.iconst 0, 1) := by decide +kernel
theorem dL_law_195 : decode cL_law 195 = .ok (.laload, 1) := by decide +kernel
theorem dL_law_196 : decode cL_law 196 = .ok (.iload 6, 2) := by decide +kernel
theorem dL_law_198 : decode cL_law 198 = .ok (.i2l, 1) := by decide +kernel
theorem dL_law_199 : decode cL_law 199 = .ok (.lcmp, 1) := by decide +kernel
theorem dL_law_200 : decode cL_law 200 = .ok (.ifCond .eq 5, 3) := by decide +kernel
theorem dL_law_203 : decode cL_law 203 = .ok (.iconst 0, 1) := by decide +kernel
theorem dL_law_204 : decode cL_law 204 = .ok (.ireturn, 1) := by decide +kernel
theorem dL_law_205 : decode cL_law 205 = .ok (.goto 1481, 3) := by decide +kernel
theorem dL_law_208 : decode cL_law 208 = .ok (.aload_n 1, 1) := by decide +kernel
theorem dL_law_209 : decode cL_law 209 = .ok (.invokevirtual 105, 3) := by decide +kernel
theorem dL_law_212 : decode cL_law 212 = .ok (.aload_n 2, 1) := by decide +kernel
theorem dL_law_213 : decode cL_law 213 = .ok (.invokevirtual 108, 3) := by decide +kernel
theorem dL_law_216 : decode cL_law 216 = .ok (.if_icmp .eq 1470, 3) := by decide +kernel
theorem dL_law_219 : decode cL_law 219 = .ok (.iconst 0, 1) := by decide +kernel
theorem dL_law_220 : decode cL_law 220 = .ok (.ireturn, 1) := by decide +kernel
theorem dL_law_221 : decode cL_law 221 = .ok (.aload_n 1, 1) := by decide +kernel
theorem dL_law_222 : decode cL_law 222 = .ok (.invokevirtual 109, 3) := by decide +kernel
theorem dL_law_225 : decode cL_law 225 = .ok (.aload_n 2, 1) := by decide +kernel
theorem dL_law_226 : decode cL_law 226 = .ok (.invokevirtual 112, 3) := by decide +kernel
theorem dL_law_229 : decode cL_law 229 = .ok (.if_icmp .eq 1457, 3) := by decide +kernel
theorem dL_law_232 : decode cL_law 232 = .ok (.iconst 0, 1) := by decide +kernel
theorem dL_law_233 : decode cL_law 233 = .ok (.ireturn, 1) := by decide +kernel
theorem dL_law_234 : decode cL_law 234 = .ok (.aload_n 1, 1) := by decide +kernel
theorem dL_law_235 : decode cL_law 235 = .ok (.aload_n 3, 1) := by decide +kernel
theorem dL_law_236 : decode cL_law 236 = .ok (.invokestatic 113, 3) := by decide +kernel
theorem dL_law_239 : decode cL_law 239 = .ok (.istore 5, 2) := by decide +kernel
theorem dL_law_241 : decode cL_law 241 = .ok (.aload_n 2, 1) := by decide +kernel
theorem dL_law_242 : decode cL_law 242 = .ok (.invokevirtual 116, 3) := by decide +kernel
theorem dL_law_245 : decode cL_law 245 = .ok (.istore 6, 2) := by decide +kernel
theorem dL_law_247 : decode cL_law 247 = .ok (.aload_n 2, 1) := by decide +kernel
theorem dL_law_248 : decode cL_law 248 = .ok (.invokevirtual 102, 3) := by decide +kernel
theorem dL_law_251 : decode cL_law 251 = .ok (.iload 5, 2) := by decide +kernel
theorem dL_law_253 : decode cL_law 253 = .ok (.if_icmp .eq 5, 3) := by decide +kernel
theorem dL_law_256 : decode cL_law 256 = .ok (.iconst 0, 1) := by decide +kernel
theorem dL_law_257 : decode cL_law 257 = .ok (.ireturn, 1) := by decide +kernel
theorem dL_law_258 : decode cL_law 258 = .ok (.iload 5, 2) := by decide +kernel
theorem dL_law_260 : decode cL_law 260 = .ok (.ifCond .ne 15, 3) := by decide +kernel
theorem dL_law_263 : decode cL_law 263 = .ok (.aload_n 3, 1) := by decide +kernel
theorem dL_law_264 : decode cL_law 264 = .ok (.iconst 0, 1) := by decide +kernel
theorem dL_law_265 : decode cL_law 265 = .ok (.laload, 1) := by decide +kernel
theorem dL_law_266 : decode cL_law 266 = .ok (.iload 6, 2) := by decide +kernel
theorem dL_law_268 : decode cL_law 268 = .ok (.i2l, 1) := by decide +kernel
theorem dL_law_269 : decode cL_law 269 = .ok (.lcmp, 1) := by decide +kernel
theorem dL_law_270 : decode cL_law 270 = .ok (.ifCond .eq 5, 3) := by decide +kernel
theorem dL_law_273 : decode cL_law 273 = .ok (.iconst 0, 1) := by decide +kernel
theorem dL_law_274 : decode cL_law 274 = .ok (.ireturn, 1) := by decide +kernel
theorem dL_law_275 : decode cL_law 275 = .ok (.goto 1411, 3) := by decide +kernel
theorem dL_law_278 : decode cL_law 278 = .ok (.aload_n 1, 1) := by decide +kernel
theorem dL_law_279 : decode cL_law 279 = .ok (.aload_n 0, 1) := by decide +kernel
theorem dL_law_280 : decode cL_law 280 = .ok (.iload 4, 2) := by decide +kernel
theorem dL_law_282 : decode cL_law 282 = .ok (.iconst 1, 1) := by decide +kernel
theorem dL_law_283 : decode cL_law 283 = .ok (.iadd, 1) := by decide +kernel
theorem dL_law_284 : decode cL_law 284 = .ok (.iaload, 1) := by decide +kernel
theorem dL_law_285 : decode cL_law 285 = .ok (.aload_n 3, 1) := by decide +kernel
theorem dL_law_286 : decode cL_law 286 = .ok (.invokestatic 117, 3) := by decide +kernel
theorem dL_law_289 : decode cL_law 289 = .ok (.istore 5, 2) := by decide +kernel
theorem dL_law_291 : decode cL_law 291 = .ok (.aload_n 2, 1) := by decide +kernel
theorem dL_law_292 : decode cL_law 292 = .ok (.aload_n 0, 1) := by decide +kernel
theorem dL_law_293 : decode cL_law 293 = .ok (.iload 4, 2) := by decide +kernel
theorem dL_law_295 : decode cL_law 295 = .ok (.iconst 1, 1) := by decide +kernel
theorem dL_law_296 : decode cL_law 296 = .ok (.iadd, 1) := by decide +kernel
theorem dL_law_297 : decode cL_law 297 = .ok (.iaload, 1) := by decide +kernel
theorem dL_law_298 : decode cL_law 298 = .ok (.invokevirtual 119, 3) := by decide +kernel
theorem dL_law_301 : decode cL_law 301 = .ok (.istore 6, 2) := by decide +kernel
theorem dL_law_303 : decode cL_law 303 = .ok (.aload_n 2, 1) := by decide +kernel
theorem dL_law_304 : decode cL_law 304 = .ok (.invokevirtual 102, 3) := by decide +kernel
theorem dL_law_307 : decode cL_law 307 = .ok (.iload 5, 2) := by decide +kernel
theorem dL_law_309 : decode cL_law 309 = .ok (.if_icmp .eq 5, 3) := by decide +kernel
theorem dL_law_312 : decode cL_law 312 = .ok (.iconst 0, 1) := by decide +kernel
theorem dL_law_313 : decode cL_law 313 = .ok (.ireturn, 1) := by decide +kernel
theorem dL_law_314 : decode cL_law 314 = .ok (.iload 5, 2) := by decide +kernel
theorem dL_law_316 : decode cL_law 316 = .ok (.ifCond .ne 15, 3) := by decide +kernel
theorem dL_law_319 : decode cL_law 319 = .ok (.aload_n 3, 1) := by decide +kernel
theorem dL_law_320 : decode cL_law 320 = .ok (.iconst 0, 1) := by decide +kernel
theorem dL_law_321 : decode cL_law 321 = .ok (.laload, 1) := by decide +kernel
theorem dL_law_322 : decode cL_law 322 = .ok (.iload 6, 2) := by decide +kernel
theorem dL_law_324 : decode cL_law 324 = .ok (.i2l, 1) := by decide +kernel
theorem dL_law_325 : decode cL_law 325 = .ok (.lcmp, 1) := by decide +kernel
theorem dL_law_326 : decode cL_law 326 = .ok (.ifCond .eq 5, 3) := by decide +kernel
theorem dL_law_329 : decode cL_law 329 = .ok (.iconst 0, 1) := by decide +kernel
theorem dL_law_330 : decode cL_law 330 = .ok (.ireturn, 1) := by decide +kernel
theorem dL_law_331 : decode cL_law 331 = .ok (.goto 1355, 3) := by decide +kernel
theorem dL_law_334 : decode cL_law 334 = .ok (.aload_n 1, 1) := by decide +kernel
theorem dL_law_335 : decode cL_law 335 = .ok (.aload_n 0, 1) := by decide +kernel
theorem dL_law_336 : decode cL_law 336 = .ok (.iload 4, 2) := by decide +kernel
theorem dL_law_338 : decode cL_law 338 = .ok (.iconst 1, 1) := by decide +kernel
theorem dL_law_339 : decode cL_law 339 = .ok (.iadd, 1) := by decide +kernel
theorem dL_law_340 : decode cL_law 340 = .ok (.iaload, 1) := by decide +kernel
theorem dL_law_341 : decode cL_law 341 = .ok (.aload_n 0, 1) := by decide +kernel
theorem dL_law_342 : decode cL_law 342 = .ok (.iload 4, 2) := by decide +kernel
theorem dL_law_344 : decode cL_law 344 = .ok (.iconst 2, 1) := by decide +kernel
theorem dL_law_345 : decode cL_law 345 = .ok (.iadd, 1) := by decide +kernel
theorem dL_law_346 : decode cL_law 346 = .ok (.iaload, 1) := by decide +kernel
theorem dL_law_347 : decode cL_law 347 = .ok (.aload_n 3, 1) := by decide +kernel
theorem dL_law_348 : decode cL_law 348 = .ok (.invokestatic 120, 3) := by decide +kernel
theorem dL_law_351 : decode cL_law 351 = .ok (.istore 5, 2) := by decide +kernel
theorem dL_law_353 : decode cL_law 353 = .ok (.aload_n 2, 1) := by decide +kernel
theorem dL_law_354 : decode cL_law 354 = .ok (.aload_n 0, 1) := by decide +kernel
theorem dL_law_355 : decode cL_law 355 = .ok (.iload 4, 2) := by decide +kernel
theorem dL_law_357 : decode cL_law 357 = .ok (.iconst 1, 1) := by decide +kernel
theorem dL_law_358 : decode cL_law 358 = .ok (.iadd, 1) := by decide +kernel
theorem dL_law_359 : decode cL_law 359 = .ok (.iaload, 1) := by decide +kernel
theorem dL_law_360 : decode cL_law 360 = .ok (.aload_n 0, 1) := by decide +kernel
theorem dL_law_361 : decode cL_law 361 = .ok (.iload 4, 2) := by decide +kernel
theorem dL_law_363 : decode cL_law 363 = .ok (.iconst 2, 1) := by decide +kernel
theorem dL_law_364 : decode cL_law 364 = .ok (.iadd, 1) := by decide +kernel
theorem dL_law_365 : decode cL_law 365 = .ok (.iaload, 1) := by decide +kernel
theorem dL_law_366 : decode cL_law 366 = .ok (.invokevirtual 123, 3) := by decide +kernel
theorem dL_law_369 : decode cL_law 369 = .ok (.istore 6, 2) := by decide +kernel
theorem dL_law_371 : decode cL_law 371 = .ok (.aload_n 2, 1) := by decide +kernel
theorem dL_law_372 : decode cL_law 372 = .ok (.invokevirtual 102, 3) := by decide +kernel
theorem dL_law_375 : decode cL_law 375 = .ok (.iload 5, 2) := by decide +kernel
theorem dL_law_377 : decode cL_law 377 = .ok (.if_icmp .eq 5, 3) := by decide +kernel
theorem dL_law_380 : decode cL_law 380 = .ok (.iconst 0, 1) := by decide +kernel
theorem dL_law_381 : decode cL_law 381 = .ok (.ireturn, 1) := by decide +kernel
theorem dL_law_382 : decode cL_law 382 = .ok (.iload 5, 2) := by decide +kernel
theorem dL_law_384 : decode cL_law 384 = .ok (.ifCond .ne 15, 3) := by decide +kernel
theorem dL_law_387 : decode cL_law 387 = .ok (.aload_n 3, 1) := by decide +kernel
theorem dL_law_388 : decode cL_law 388 = .ok (.iconst 0, 1) := by decide +kernel
theorem dL_law_389 : decode cL_law 389 = .ok (.laload, 1) := by decide +kernel
theorem dL_law_390 : decode cL_law 390 = .ok (.iload 6, 2) := by decide +kernel
theorem dL_law_392 : decode cL_law 392 = .ok (.i2l, 1) := by decide +kernel
theorem dL_law_393 : decode cL_law 393 = .ok (.lcmp, 1) := by decide +kernel
theorem dL_law_394 : decode cL_law 394 = .ok (.ifCond .eq 5, 3) := by decide +kernel
theorem dL_law_397 : decode cL_law 397 = .ok (.iconst 0, 1) := by decide +kernel
theorem dL_law_398 : decode cL_law 398 = .ok (.ireturn, 1) := by decide +kernel
theorem dL_law_399 : decode cL_law 399 = .ok (.goto 1287, 3) := by decide +kernel
theorem dL_law_402 : decode cL_law 402 = .ok (.aload_n 1, 1) := by decide +kernel
theorem dL_law_403 : decode cL_law 403 = .ok (.aload_n 0, 1) := by decide +kernel
theorem dL_law_404 : decode cL_law 404 = .ok (.iload 4, 2) := by decide +kernel
theorem dL_law_406 : decode cL_law 406 = .ok (.iconst 1, 1) := by decide +kernel
theorem dL_law_407 : decode cL_law 407 = .ok (.iadd, 1) := by decide +kernel
theorem dL_law_408 : decode cL_law 408 = .ok (.iaload, 1) := by decide +kernel
theorem dL_law_409 : decode cL_law 409 = .ok (.aload_n 0, 1) := by decide +kernel
theorem dL_law_410 : decode cL_law 410 = .ok (.iload 4, 2) := by decide +kernel
theorem dL_law_412 : decode cL_law 412 = .ok (.iconst 2, 1) := by decide +kernel
theorem dL_law_413 : decode cL_law 413 = .ok (.iadd, 1) := by decide +kernel
theorem dL_law_414 : decode cL_law 414 = .ok (.iaload, 1) := by decide +kernel
theorem dL_law_415 : decode cL_law 415 = .ok (.aload_n 0, 1) := by decide +kernel
theorem dL_law_416 : decode cL_law 416 = .ok (.iload 4, 2) := by decide +kernel
theorem dL_law_418 : decode cL_law 418 = .ok (.iconst 3, 1) := by decide +kernel
theorem dL_law_419 : decode cL_law 419 = .ok (.iadd, 1) := by decide +kernel
theorem dL_law_420 : decode cL_law 420 = .ok (.iaload, 1) := by decide +kernel
theorem dL_law_421 : decode cL_law 421 = .ok (.aload_n 3, 1) := by decide +kernel
theorem dL_law_422 : decode cL_law 422 = .ok (.invokestatic 124, 3) := by decide +kernel
theorem dL_law_425 : decode cL_law 425 = .ok (.istore 5, 2) := by decide +kernel
theorem dL_law_427 : decode cL_law 427 = .ok (.aload_n 2, 1) := by decide +kernel
theorem dL_law_428 : decode cL_law 428 = .ok (.aload_n 0, 1) := by decide +kernel
theorem dL_law_429 : decode cL_law 429 = .ok (.iload 4, 2) := by decide +kernel
theorem dL_law_431 : decode cL_law 431 = .ok (.iconst 1, 1) := by decide +kernel
theorem dL_law_432 : decode cL_law 432 = .ok (.iadd, 1) := by decide +kernel
theorem dL_law_433 : decode cL_law 433 = .ok (.iaload, 1) := by decide +kernel
theorem dL_law_434 : decode cL_law 434 = .ok (.aload_n 0, 1) := by decide +kernel
theorem dL_law_435 : decode cL_law 435 = .ok (.iload 4, 2) := by decide +kernel
theorem dL_law_437 : decode cL_law 437 = .ok (.iconst 2, 1) := by decide +kernel
theorem dL_law_438 : decode cL_law 438 = .ok (.iadd, 1) := by decide +kernel
theorem dL_law_439 : decode cL_law 439 = .ok (.iaload, 1) := by decide +kernel
theorem dL_law_440 : decode cL_law 440 = .ok (.aload_n 0, 1) := by decide +kernel
theorem dL_law_441 : decode cL_law 441 = .ok (.iload 4, 2) := by decide +kernel
theorem dL_law_443 : decode cL_law 443 = .ok (.iconst 3, 1) := by decide +kernel
theorem dL_law_444 : decode cL_law 444 = .ok (.iadd, 1) := by decide +kernel
theorem dL_law_445 : decode cL_law 445 = .ok (.iaload, 1) := by decide +kernel
theorem dL_law_446 : decode cL_law 446 = .ok (.invokevirtual 127, 3) := by decide +kernel
theorem dL_law_449 : decode cL_law 449 = .ok (.istore 6, 2) := by decide +kernel
theorem dL_law_451 : decode cL_law 451 = .ok (.aload_n 2, 1) := by decide +kernel
theorem dL_law_452 : decode cL_law 452 = .ok (.invokevirtual 102, 3) := by decide +kernel
theorem dL_law_455 : decode cL_law 455 = .ok (.iload 5, 2) := by decide +kernel
theorem dL_law_457 : decode cL_law 457 = .ok (.if_icmp .eq 5, 3) := by decide +kernel
theorem dL_law_460 : decode cL_law 460 = .ok (.iconst 0, 1) := by decide +kernel
theorem dL_law_461 : decode cL_law 461 = .ok (.ireturn, 1) := by decide +kernel
theorem dL_law_462 : decode cL_law 462 = .ok (.iload 5, 2) := by decide +kernel
theorem dL_law_464 : decode cL_law 464 = .ok (.ifCond .ne 15, 3) := by decide +kernel
theorem dL_law_467 : decode cL_law 467 = .ok (.aload_n 3, 1) := by decide +kernel
theorem dL_law_468 : decode cL_law 468 = .ok (.iconst 0, 1) := by decide +kernel
theorem dL_law_469 : decode cL_law 469 = .ok (.laload, 1) := by decide +kernel
theorem dL_law_470 : decode cL_law 470 = .ok (.iload 6, 2) := by decide +kernel
theorem dL_law_472 : decode cL_law 472 = .ok (.i2l, 1) := by decide +kernel
theorem dL_law_473 : decode cL_law 473 = .ok (.lcmp, 1) := by decide +kernel
theorem dL_law_474 : decode cL_law 474 = .ok (.ifCond .eq 5, 3) := by decide +kernel
theorem dL_law_477 : decode cL_law 477 = .ok (.iconst 0, 1) := by decide +kernel
theorem dL_law_478 : decode cL_law 478 = .ok (.ireturn, 1) := by decide +kernel
theorem dL_law_479 : decode cL_law 479 = .ok (.goto 1207, 3) := by decide +kernel
theorem dL_law_482 : decode cL_law 482 = .ok (.aload_n 1, 1) := by decide +kernel
theorem dL_law_483 : decode cL_law 483 = .ok (.aload_n 0, 1) := by decide +kernel
theorem dL_law_484 : decode cL_law 484 = .ok (.iload 4, 2) := by decide +kernel
theorem dL_law_486 : decode cL_law 486 = .ok (.iconst 1, 1) := by decide +kernel
theorem dL_law_487 : decode cL_law 487 = .ok (.iadd, 1) := by decide +kernel
theorem dL_law_488 : decode cL_law 488 = .ok (.iaload, 1) := by decide +kernel
theorem dL_law_489 : decode cL_law 489 = .ok (.aload_n 3, 1) := by decide +kernel
theorem dL_law_490 : decode cL_law 490 = .ok (.invokestatic 128, 3) := by decide +kernel
theorem dL_law_493 : decode cL_law 493 = .ok (.istore 5, 2) := by decide +kernel
theorem dL_law_495 : decode cL_law 495 = .ok (.aload_n 2, 1) := by decide +kernel
theorem dL_law_496 : decode cL_law 496 = .ok (.aload_n 0, 1) := by decide +kernel
theorem dL_law_497 : decode cL_law 497 = .ok (.iload 4, 2) := by decide +kernel
theorem dL_law_499 : decode cL_law 499 = .ok (.iconst 1, 1) := by decide +kernel
theorem dL_law_500 : decode cL_law 500 = .ok (.iadd, 1) := by decide +kernel
theorem dL_law_501 : decode cL_law 501 = .ok (.iaload, 1) := by decide +kernel
theorem dL_law_502 : decode cL_law 502 = .ok (.invokevirtual 130, 3) := by decide +kernel
theorem dL_law_505 : decode cL_law 505 = .ok (.istore 6, 2) := by decide +kernel
theorem dL_law_507 : decode cL_law 507 = .ok (.aload_n 2, 1) := by decide +kernel
theorem dL_law_508 : decode cL_law 508 = .ok (.invokevirtual 102, 3) := by decide +kernel
theorem dL_law_511 : decode cL_law 511 = .ok (.iload 5, 2) := by decide +kernel
theorem dL_law_513 : decode cL_law 513 = .ok (.if_icmp .eq 5, 3) := by decide +kernel
theorem dL_law_516 : decode cL_law 516 = .ok (.iconst 0, 1) := by decide +kernel
theorem dL_law_517 : decode cL_law 517 = .ok (.ireturn, 1) := by decide +kernel
theorem dL_law_518 : decode cL_law 518 = .ok (.iload 5, 2) := by decide +kernel
theorem dL_law_520 : decode cL_law 520 = .ok (.ifCond .ne 15, 3) := by decide +kernel
theorem dL_law_523 : decode cL_law 523 = .ok (.aload_n 3, 1) := by decide +kernel
theorem dL_law_524 : decode cL_law 524 = .ok (.iconst 0, 1) := by decide +kernel
theorem dL_law_525 : decode cL_law 525 = .ok (.laload, 1) := by decide +kernel
theorem dL_law_526 : decode cL_law 526 = .ok (.iload 6, 2) := by decide +kernel
theorem dL_law_528 : decode cL_law 528 = .ok (.i2l, 1) := by decide +kernel
theorem dL_law_529 : decode cL_law 529 = .ok (.lcmp, 1) := by decide +kernel
theorem dL_law_530 : decode cL_law 530 = .ok (.ifCond .eq 5, 3) := by decide +kernel
theorem dL_law_533 : decode cL_law 533 = .ok (.iconst 0, 1) := by decide +kernel
theorem dL_law_534 : decode cL_law 534 = .ok (.ireturn, 1) := by decide +kernel
theorem dL_law_535 : decode cL_law 535 = .ok (.goto 1151, 3) := by decide +kernel
theorem dL_law_538 : decode cL_law 538 = .ok (.aload_n 1, 1) := by decide +kernel
theorem dL_law_539 : decode cL_law 539 = .ok (.aload_n 0, 1) := by decide +kernel
theorem dL_law_540 : decode cL_law 540 = .ok (.iload 4, 2) := by decide +kernel
theorem dL_law_542 : decode cL_law 542 = .ok (.iconst 1, 1) := by decide +kernel
theorem dL_law_543 : decode cL_law 543 = .ok (.iadd, 1) := by decide +kernel
theorem dL_law_544 : decode cL_law 544 = .ok (.iaload, 1) := by decide +kernel
theorem dL_law_545 : decode cL_law 545 = .ok (.aload_n 3, 1) := by decide +kernel
theorem dL_law_546 : decode cL_law 546 = .ok (.invokestatic 131, 3) := by decide +kernel
theorem dL_law_549 : decode cL_law 549 = .ok (.istore 5, 2) := by decide +kernel
theorem dL_law_551 : decode cL_law 551 = .ok (.aload_n 2, 1) := by decide +kernel
theorem dL_law_552 : decode cL_law 552 = .ok (.aload_n 0, 1) := by decide +kernel
theorem dL_law_553 : decode cL_law 553 = .ok (.iload 4, 2) := by decide +kernel
theorem dL_law_555 : decode cL_law 555 = .ok (.iconst 1, 1) := by decide +kernel
theorem dL_law_556 : decode cL_law 556 = .ok (.iadd, 1) := by decide +kernel
theorem dL_law_557 : decode cL_law 557 = .ok (.iaload, 1) := by decide +kernel
theorem dL_law_558 : decode cL_law 558 = .ok (.invokevirtual 133, 3) := by decide +kernel
theorem dL_law_561 : decode cL_law 561 = .ok (.istore 6, 2) := by decide +kernel
theorem dL_law_563 : decode cL_law 563 = .ok (.aload_n 2, 1) := by decide +kernel
theorem dL_law_564 : decode cL_law 564 = .ok (.invokevirtual 102, 3) := by decide +kernel
theorem dL_law_567 : decode cL_law 567 = .ok (.iload 5, 2) := by decide +kernel
theorem dL_law_569 : decode cL_law 569 = .ok (.if_icmp .eq 5, 3) := by decide +kernel
theorem dL_law_572 : decode cL_law 572 = .ok (.iconst 0, 1) := by decide +kernel
theorem dL_law_573 : decode cL_law 573 = .ok (.ireturn, 1) := by decide +kernel
theorem dL_law_574 : decode cL_law 574 = .ok (.iload 5, 2) := by decide +kernel
theorem dL_law_576 : decode cL_law 576 = .ok (.ifCond .ne 15, 3) := by decide +kernel
theorem dL_law_579 : decode cL_law 579 = .ok (.aload_n 3, 1) := by decide +kernel
theorem dL_law_580 : decode cL_law 580 = .ok (.iconst 0, 1) := by decide +kernel
theorem dL_law_581 : decode cL_law 581 = .ok (.laload, 1) := by decide +kernel
theorem dL_law_582 : decode cL_law 582 = .ok (.iload 6, 2) := by decide +kernel
theorem dL_law_584 : decode cL_law 584 = .ok (.i2l, 1) := by decide +kernel
theorem dL_law_585 : decode cL_law 585 = .ok (.lcmp, 1) := by decide +kernel
theorem dL_law_586 : decode cL_law 586 = .ok (.ifCond .eq 5, 3) := by decide +kernel
theorem dL_law_589 : decode cL_law 589 = .ok (.iconst 0, 1) := by decide +kernel
theorem dL_law_590 : decode cL_law 590 = .ok (.ireturn, 1) := by decide +kernel
theorem dL_law_591 : decode cL_law 591 = .ok (.goto 1095, 3) := by decide +kernel
theorem dL_law_594 : decode cL_law 594 = .ok (.aload_n 1, 1) := by decide +kernel
theorem dL_law_595 : decode cL_law 595 = .ok (.aload_n 3, 1) := by decide +kernel
theorem dL_law_596 : decode cL_law 596 = .ok (.invokestatic 134, 3) := by decide +kernel
theorem dL_law_599 : decode cL_law 599 = .ok (.istore 5, 2) := by decide +kernel
theorem dL_law_601 : decode cL_law 601 = .ok (.aload_n 2, 1) := by decide +kernel
theorem dL_law_602 : decode cL_law 602 = .ok (.invokevirtual 136, 3) := by decide +kernel
theorem dL_law_605 : decode cL_law 605 = .ok (.istore 6, 2) := by decide +kernel
theorem dL_law_607 : decode cL_law 607 = .ok (.aload_n 2, 1) := by decide +kernel
theorem dL_law_608 : decode cL_law 608 = .ok (.invokevirtual 102, 3) := by decide +kernel
theorem dL_law_611 : decode cL_law 611 = .ok (.iload 5, 2) := by decide +kernel
theorem dL_law_613 : decode cL_law 613 = .ok (.if_icmp .eq 5, 3) := by decide +kernel
theorem dL_law_616 : decode cL_law 616 = .ok (.iconst 0, 1) := by decide +kernel
theorem dL_law_617 : decode cL_law 617 = .ok (.ireturn, 1) := by decide +kernel
theorem dL_law_618 : decode cL_law 618 = .ok (.iload 5, 2) := by decide +kernel
theorem dL_law_620 : decode cL_law 620 = .ok (.ifCond .ne 15, 3) := by decide +kernel
theorem dL_law_623 : decode cL_law 623 = .ok (.aload_n 3, 1) := by decide +kernel
theorem dL_law_624 : decode cL_law 624 = .ok (.iconst 0, 1) := by decide +kernel
theorem dL_law_625 : decode cL_law 625 = .ok (.laload, 1) := by decide +kernel
theorem dL_law_626 : decode cL_law 626 = .ok (.iload 6, 2) := by decide +kernel
theorem dL_law_628 : decode cL_law 628 = .ok (.i2l, 1) := by decide +kernel
theorem dL_law_629 : decode cL_law 629 = .ok (.lcmp, 1) := by decide +kernel
theorem dL_law_630 : decode cL_law 630 = .ok (.ifCond .eq 5, 3) := by decide +kernel
theorem dL_law_633 : decode cL_law 633 = .ok (.iconst 0, 1) := by decide +kernel
theorem dL_law_634 : decode cL_law 634 = .ok (.ireturn, 1) := by decide +kernel
theorem dL_law_635 : decode cL_law 635 = .ok (.goto 1051, 3) := by decide +kernel
theorem dL_law_638 : decode cL_law 638 = .ok (.aload_n 1, 1) := by decide +kernel
theorem dL_law_639 : decode cL_law 639 = .ok (.aload_n 0, 1) := by decide +kernel
theorem dL_law_640 : decode cL_law 640 = .ok (.iload 4, 2) := by decide +kernel
theorem dL_law_642 : decode cL_law 642 = .ok (.iconst 1, 1) := by decide +kernel
theorem dL_law_643 : decode cL_law 643 = .ok (.iadd, 1) := by decide +kernel
theorem dL_law_644 : decode cL_law 644 = .ok (.iaload, 1) := by decide +kernel
theorem dL_law_645 : decode cL_law 645 = .ok (.aload_n 0, 1) := by decide +kernel
theorem dL_law_646 : decode cL_law 646 = .ok (.iload 4, 2) := by decide +kernel
theorem dL_law_648 : decode cL_law 648 = .ok (.iconst 2, 1) := by decide +kernel
theorem dL_law_649 : decode cL_law 649 = .ok (.iadd, 1) := by decide +kernel
theorem dL_law_650 : decode cL_law 650 = .ok (.iaload, 1) := by decide +kernel
theorem dL_law_651 : decode cL_law 651 = .ok (.aload_n 0, 1) := by decide +kernel
theorem dL_law_652 : decode cL_law 652 = .ok (.iload 4, 2) := by decide +kernel
theorem dL_law_654 : decode cL_law 654 = .ok (.iconst 3, 1) := by decide +kernel
theorem dL_law_655 : decode cL_law 655 = .ok (.iadd, 1) := by decide +kernel
theorem dL_law_656 : decode cL_law 656 = .ok (.iaload, 1) := by decide +kernel
theorem dL_law_657 : decode cL_law 657 = .ok (.ifCond .eq 7, 3) := by decide +kernel
theorem dL_law_660 : decode cL_law 660 = .ok (.iconst 1, 1) := by decide +kernel
theorem dL_law_661 : decode cL_law 661 = .ok (.goto 4, 3) := by decide +kernel
theorem dL_law_664 : decode cL_law 664 = .ok (.iconst 0, 1) := by decide +kernel
theorem dL_law_665 : decode cL_law 665 = .ok (.aload_n 0, 1) := by decide +kernel
theorem dL_law_666 : decode cL_law 666 = .ok (.iload 4, 2) := by decide +kernel
theorem dL_law_668 : decode cL_law 668 = .ok (.iconst 4, 1) := by decide +kernel
theorem dL_law_669 : decode cL_law 669 = .ok (.iadd, 1) := by decide +kernel
theorem dL_law_670 : decode cL_law 670 = .ok (.iaload, 1) := by decide +kernel
theorem dL_law_671 : decode cL_law 671 = .ok (.ifCond .eq 7, 3) := by decide +kernel
theorem dL_law_674 : decode cL_law 674 = .ok (.iconst 1, 1) := by decide +kernel
theorem dL_law_675 : decode cL_law 675 = .ok (.goto 4, 3) := by decide +kernel
theorem dL_law_678 : decode cL_law 678 = .ok (.iconst 0, 1) := by decide +kernel
theorem dL_law_679 : decode cL_law 679 = .ok (.aload_n 3, 1) := by decide +kernel
theorem dL_law_680 : decode cL_law 680 = .ok (.invokestatic 137, 3) := by decide +kernel
theorem dL_law_683 : decode cL_law 683 = .ok (.istore 5, 2) := by decide +kernel
theorem dL_law_685 : decode cL_law 685 = .ok (.aload_n 2, 1) := by decide +kernel
theorem dL_law_686 : decode cL_law 686 = .ok (.aload_n 0, 1) := by decide +kernel
theorem dL_law_687 : decode cL_law 687 = .ok (.iload 4, 2) := by decide +kernel
theorem dL_law_689 : decode cL_law 689 = .ok (.iconst 1, 1) := by decide +kernel
theorem dL_law_690 : decode cL_law 690 = .ok (.iadd, 1) := by decide +kernel
theorem dL_law_691 : decode cL_law 691 = .ok (.iaload, 1) := by decide +kernel
theorem dL_law_692 : decode cL_law 692 = .ok (.aload_n 0, 1) := by decide +kernel
theorem dL_law_693 : decode cL_law 693 = .ok (.iload 4, 2) := by decide +kernel
theorem dL_law_695 : decode cL_law 695 = .ok (.iconst 2, 1) := by decide +kernel
theorem dL_law_696 : decode cL_law 696 = .ok (.iadd, 1) := by decide +kernel
theorem dL_law_697 : decode cL_law 697 = .ok (.iaload, 1) := by decide +kernel
theorem dL_law_698 : decode cL_law 698 = .ok (.aload_n 0, 1) := by decide +kernel
theorem dL_law_699 : decode cL_law 699 = .ok (.iload 4, 2) := by decide +kernel
theorem dL_law_701 : decode cL_law 701 = .ok (.iconst 3, 1) := by decide +kernel
theorem dL_law_702 : decode cL_law 702 = .ok (.iadd, 1) := by decide +kernel
theorem dL_law_703 : decode cL_law 703 = .ok (.iaload, 1) := by decide +kernel
theorem dL_law_704 : decode cL_law 704 = .ok (.ifCond .eq 7, 3) := by decide +kernel
theorem dL_law_707 : decode cL_law 707 = .ok (.iconst 1, 1) := by decide +kernel
theorem dL_law_708 : decode cL_law 708 = .ok (.goto 4, 3) := by decide +kernel
theorem dL_law_711 : decode cL_law 711 = .ok (.iconst 0, 1) := by decide +kernel
theorem dL_law_712 : decode cL_law 712 = .ok (.aload_n 0, 1) := by decide +kernel
theorem dL_law_713 : decode cL_law 713 = .ok (.iload 4, 2) := by decide +kernel
theorem dL_law_715 : decode cL_law 715 = .ok (.iconst 4, 1) := by decide +kernel
theorem dL_law_716 : decode cL_law 716 = .ok (.iadd, 1) := by decide +kernel
theorem dL_law_717 : decode cL_law 717 = .ok (.iaload, 1) := by decide +kernel
theorem dL_law_718 : decode cL_law 718 = .ok (.ifCond .eq 7, 3) := by decide +kernel
theorem dL_law_721 : decode cL_law 721 = .ok (.iconst 1, 1) := by decide +kernel
theorem dL_law_722 : decode cL_law 722 = .ok (.goto 4, 3) := by decide +kernel
theorem dL_law_725 : decode cL_law 725 = .ok (.iconst 0, 1) := by decide +kernel
theorem dL_law_726 : decode cL_law 726 = .ok (.invokevirtual 140, 3) := by decide +kernel
theorem dL_law_729 : decode cL_law 729 = .ok (.istore 6, 2) := by decide +kernel
theorem dL_law_731 : decode cL_law 731 = .ok (.aload_n 2, 1) := by decide +kernel
theorem dL_law_732 : decode cL_law 732 = .ok (.invokevirtual 102, 3) := by decide +kernel
theorem dL_law_735 : decode cL_law 735 = .ok (.iload 5, 2) := by decide +kernel
theorem dL_law_737 : decode cL_law 737 = .ok (.if_icmp .eq 5, 3) := by decide +kernel
theorem dL_law_740 : decode cL_law 740 = .ok (.iconst 0, 1) := by decide +kernel
theorem dL_law_741 : decode cL_law 741 = .ok (.ireturn, 1) := by decide +kernel
theorem dL_law_742 : decode cL_law 742 = .ok (.iload 5, 2) := by decide +kernel
theorem dL_law_744 : decode cL_law 744 = .ok (.ifCond .ne 15, 3) := by decide +kernel
theorem dL_law_747 : decode cL_law 747 = .ok (.aload_n 3, 1) := by decide +kernel
theorem dL_law_748 : decode cL_law 748 = .ok (.iconst 0, 1) := by decide +kernel
theorem dL_law_749 : decode cL_law 749 = .ok (.laload, 1) := by decide +kernel
theorem dL_law_750 : decode cL_law 750 = .ok (.iload 6, 2) := by decide +kernel
theorem dL_law_752 : decode cL_law 752 = .ok (.i2l, 1) := by decide +kernel
theorem dL_law_753 : decode cL_law 753 = .ok (.lcmp, 1) := by decide +kernel
theorem dL_law_754 : decode cL_law 754 = .ok (.ifCond .eq 5, 3) := by decide +kernel
theorem dL_law_757 : decode cL_law 757 = .ok (.iconst 0, 1) := by decide +kernel
theorem dL_law_758 : decode cL_law 758 = .ok (.ireturn, 1) := by decide +kernel
theorem dL_law_759 : decode cL_law 759 = .ok (.goto 927, 3) := by decide +kernel
theorem dL_law_762 : decode cL_law 762 = .ok (.aload_n 1, 1) := by decide +kernel
theorem dL_law_763 : decode cL_law 763 = .ok (.aload_n 0, 1) := by decide +kernel
theorem dL_law_764 : decode cL_law 764 = .ok (.iload 4, 2) := by decide +kernel
theorem dL_law_766 : decode cL_law 766 = .ok (.iconst 1, 1) := by decide +kernel
theorem dL_law_767 : decode cL_law 767 = .ok (.iadd, 1) := by decide +kernel
theorem dL_law_768 : decode cL_law 768 = .ok (.iaload, 1) := by decide +kernel
theorem dL_law_769 : decode cL_law 769 = .ok (.aload_n 0, 1) := by decide +kernel
theorem dL_law_770 : decode cL_law 770 = .ok (.iload 4, 2) := by decide +kernel
theorem dL_law_772 : decode cL_law 772 = .ok (.iconst 2, 1) := by decide +kernel
theorem dL_law_773 : decode cL_law 773 = .ok (.iadd, 1) := by decide +kernel
theorem dL_law_774 : decode cL_law 774 = .ok (.iaload, 1) := by decide +kernel
theorem dL_law_775 : decode cL_law 775 = .ok (.ifCond .eq 7, 3) := by decide +kernel
theorem dL_law_778 : decode cL_law 778 = .ok (.iconst 1, 1) := by decide +kernel
theorem dL_law_779 : decode cL_law 779 = .ok (.goto 4, 3) := by decide +kernel
theorem dL_law_782 : decode cL_law 782 = .ok (.iconst 0, 1) := by decide +kernel
theorem dL_law_783 : decode cL_law 783 = .ok (.aload_n 3, 1) := by decide +kernel
theorem dL_law_784 : decode cL_law 784 = .ok (.invokestatic 141, 3) := by decide +kernel
theorem dL_law_787 : decode cL_law 787 = .ok (.istore 5, 2) := by decide +kernel
theorem dL_law_789 : decode cL_law 789 = .ok (.aload_n 2, 1) := by decide +kernel
theorem dL_law_790 : decode cL_law 790 = .ok (.aload_n 0, 1) := by decide +kernel
theorem dL_law_791 : decode cL_law 791 = .ok (.iload 4, 2) := by decide +kernel
theorem dL_law_793 : decode cL_law 793 = .ok (.iconst 1, 1) := by decide +kernel
theorem dL_law_794 : decode cL_law 794 = .ok (.iadd, 1) := by decide +kernel
theorem dL_law_795 : decode cL_law 795 = .ok (.iaload, 1) := by decide +kernel
theorem dL_law_796 : decode cL_law 796 = .ok (.aload_n 0, 1) := by decide +kernel
theorem dL_law_797 : decode cL_law 797 = .ok (.iload 4, 2) := by decide +kernel
theorem dL_law_799 : decode cL_law 799 = .ok (.iconst 2, 1) := by decide +kernel
theorem dL_law_800 : decode cL_law 800 = .ok (.iadd, 1) := by decide +kernel
theorem dL_law_801 : decode cL_law 801 = .ok (.iaload, 1) := by decide +kernel
theorem dL_law_802 : decode cL_law 802 = .ok (.ifCond .eq 7, 3) := by decide +kernel
theorem dL_law_805 : decode cL_law 805 = .ok (.iconst 1, 1) := by decide +kernel
theorem dL_law_806 : decode cL_law 806 = .ok (.goto 4, 3) := by decide +kernel
theorem dL_law_809 : decode cL_law 809 = .ok (.iconst 0, 1) := by decide +kernel
theorem dL_law_810 : decode cL_law 810 = .ok (.invokevirtual 144, 3) := by decide +kernel
theorem dL_law_813 : decode cL_law 813 = .ok (.istore 6, 2) := by decide +kernel
theorem dL_law_815 : decode cL_law 815 = .ok (.aload_n 2, 1) := by decide +kernel
theorem dL_law_816 : decode cL_law 816 = .ok (.invokevirtual 102, 3) := by decide +kernel
theorem dL_law_819 : decode cL_law 819 = .ok (.iload 5, 2) := by decide +kernel
theorem dL_law_821 : decode cL_law 821 = .ok (.if_icmp .eq 5, 3) := by decide +kernel
theorem dL_law_824 : decode cL_law 824 = .ok (.iconst 0, 1) := by decide +kernel
theorem dL_law_825 : decode cL_law 825 = .ok (.ireturn, 1) := by decide +kernel
theorem dL_law_826 : decode cL_law 826 = .ok (.iload 5, 2) := by decide +kernel
theorem dL_law_828 : decode cL_law 828 = .ok (.ifCond .ne 15, 3) := by decide +kernel
theorem dL_law_831 : decode cL_law 831 = .ok (.aload_n 3, 1) := by decide +kernel
theorem dL_law_832 : decode cL_law 832 = .ok (.iconst 0, 1) := by decide +kernel
theorem dL_law_833 : decode cL_law 833 = .ok (.laload, 1) := by decide +kernel
theorem dL_law_834 : decode cL_law 834 = .ok (.iload 6, 2) := by decide +kernel
theorem dL_law_836 : decode cL_law 836 = .ok (.i2l, 1) := by decide +kernel
theorem dL_law_837 : decode cL_law 837 = .ok (.lcmp, 1) := by decide +kernel
theorem dL_law_838 : decode cL_law 838 = .ok (.ifCond .eq 5, 3) := by decide +kernel
theorem dL_law_841 : decode cL_law 841 = .ok (.iconst 0, 1) := by decide +kernel
theorem dL_law_842 : decode cL_law 842 = .ok (.ireturn, 1) := by decide +kernel
theorem dL_law_843 : decode cL_law 843 = .ok (.goto 843, 3) := by decide +kernel
theorem dL_law_846 : decode cL_law 846 = .ok (.aload_n 1, 1) := by decide +kernel
theorem dL_law_847 : decode cL_law 847 = .ok (.aload_n 0, 1) := by decide +kernel
theorem dL_law_848 : decode cL_law 848 = .ok (.iload 4, 2) := by decide +kernel
theorem dL_law_850 : decode cL_law 850 = .ok (.iconst 1, 1) := by decide +kernel
theorem dL_law_851 : decode cL_law 851 = .ok (.iadd, 1) := by decide +kernel
theorem dL_law_852 : decode cL_law 852 = .ok (.iaload, 1) := by decide +kernel
theorem dL_law_853 : decode cL_law 853 = .ok (.aload_n 3, 1) := by decide +kernel
theorem dL_law_854 : decode cL_law 854 = .ok (.invokestatic 145, 3) := by decide +kernel
theorem dL_law_857 : decode cL_law 857 = .ok (.istore 5, 2) := by decide +kernel
theorem dL_law_859 : decode cL_law 859 = .ok (.aload_n 2, 1) := by decide +kernel
theorem dL_law_860 : decode cL_law 860 = .ok (.aload_n 0, 1) := by decide +kernel
theorem dL_law_861 : decode cL_law 861 = .ok (.iload 4, 2) := by decide +kernel
theorem dL_law_863 : decode cL_law 863 = .ok (.iconst 1, 1) := by decide +kernel
theorem dL_law_864 : decode cL_law 864 = .ok (.iadd, 1) := by decide +kernel
theorem dL_law_865 : decode cL_law 865 = .ok (.iaload, 1) := by decide +kernel
theorem dL_law_866 : decode cL_law 866 = .ok (.invokevirtual 147, 3) := by decide +kernel
theorem dL_law_869 : decode cL_law 869 = .ok (.istore 6, 2) := by decide +kernel
theorem dL_law_871 : decode cL_law 871 = .ok (.aload_n 2, 1) := by decide +kernel
theorem dL_law_872 : decode cL_law 872 = .ok (.invokevirtual 102, 3) := by decide +kernel
theorem dL_law_875 : decode cL_law 875 = .ok (.iload 5, 2) := by decide +kernel
theorem dL_law_877 : decode cL_law 877 = .ok (.if_icmp .eq 5, 3) := by decide +kernel
theorem dL_law_880 : decode cL_law 880 = .ok (.iconst 0, 1) := by decide +kernel
theorem dL_law_881 : decode cL_law 881 = .ok (.ireturn, 1) := by decide +kernel
theorem dL_law_882 : decode cL_law 882 = .ok (.iload 5, 2) := by decide +kernel
theorem dL_law_884 : decode cL_law 884 = .ok (.ifCond .ne 15, 3) := by decide +kernel
theorem dL_law_887 : decode cL_law 887 = .ok (.aload_n 3, 1) := by decide +kernel
theorem dL_law_888 : decode cL_law 888 = .ok (.iconst 0, 1) := by decide +kernel
theorem dL_law_889 : decode cL_law 889 = .ok (.laload, 1) := by decide +kernel
theorem dL_law_890 : decode cL_law 890 = .ok (.iload 6, 2) := by decide +kernel
theorem dL_law_892 : decode cL_law 892 = .ok (.i2l, 1) := by decide +kernel
theorem dL_law_893 : decode cL_law 893 = .ok (.lcmp, 1) := by decide +kernel
theorem dL_law_894 : decode cL_law 894 = .ok (.ifCond .eq 5, 3) := by decide +kernel
theorem dL_law_897 : decode cL_law 897 = .ok (.iconst 0, 1) := by decide +kernel
theorem dL_law_898 : decode cL_law 898 = .ok (.ireturn, 1) := by decide +kernel
theorem dL_law_899 : decode cL_law 899 = .ok (.goto 787, 3) := by decide +kernel
theorem dL_law_902 : decode cL_law 902 = .ok (.aload_n 1, 1) := by decide +kernel
theorem dL_law_903 : decode cL_law 903 = .ok (.aload_n 0, 1) := by decide +kernel
theorem dL_law_904 : decode cL_law 904 = .ok (.iload 4, 2) := by decide +kernel
theorem dL_law_906 : decode cL_law 906 = .ok (.iconst 1, 1) := by decide +kernel
theorem dL_law_907 : decode cL_law 907 = .ok (.iadd, 1) := by decide +kernel
theorem dL_law_908 : decode cL_law 908 = .ok (.iaload, 1) := by decide +kernel
theorem dL_law_909 : decode cL_law 909 = .ok (.aload_n 3, 1) := by decide +kernel
theorem dL_law_910 : decode cL_law 910 = .ok (.invokestatic 148, 3) := by decide +kernel
theorem dL_law_913 : decode cL_law 913 = .ok (.istore 5, 2) := by decide +kernel
theorem dL_law_915 : decode cL_law 915 = .ok (.aload_n 2, 1) := by decide +kernel
theorem dL_law_916 : decode cL_law 916 = .ok (.aload_n 0, 1) := by decide +kernel
theorem dL_law_917 : decode cL_law 917 = .ok (.iload 4, 2) := by decide +kernel
theorem dL_law_919 : decode cL_law 919 = .ok (.iconst 1, 1) := by decide +kernel
theorem dL_law_920 : decode cL_law 920 = .ok (.iadd, 1) := by decide +kernel
theorem dL_law_921 : decode cL_law 921 = .ok (.iaload, 1) := by decide +kernel
theorem dL_law_922 : decode cL_law 922 = .ok (.invokevirtual 150, 3) := by decide +kernel
theorem dL_law_925 : decode cL_law 925 = .ok (.istore 6, 2) := by decide +kernel
theorem dL_law_927 : decode cL_law 927 = .ok (.aload_n 2, 1) := by decide +kernel
theorem dL_law_928 : decode cL_law 928 = .ok (.invokevirtual 102, 3) := by decide +kernel
theorem dL_law_931 : decode cL_law 931 = .ok (.iload 5, 2) := by decide +kernel
theorem dL_law_933 : decode cL_law 933 = .ok (.if_icmp .eq 5, 3) := by decide +kernel
theorem dL_law_936 : decode cL_law 936 = .ok (.iconst 0, 1) := by decide +kernel
theorem dL_law_937 : decode cL_law 937 = .ok (.ireturn, 1) := by decide +kernel
theorem dL_law_938 : decode cL_law 938 = .ok (.iload 5, 2) := by decide +kernel
theorem dL_law_940 : decode cL_law 940 = .ok (.ifCond .ne 15, 3) := by decide +kernel
theorem dL_law_943 : decode cL_law 943 = .ok (.aload_n 3, 1) := by decide +kernel
theorem dL_law_944 : decode cL_law 944 = .ok (.iconst 0, 1) := by decide +kernel
theorem dL_law_945 : decode cL_law 945 = .ok (.laload, 1) := by decide +kernel
theorem dL_law_946 : decode cL_law 946 = .ok (.iload 6, 2) := by decide +kernel
theorem dL_law_948 : decode cL_law 948 = .ok (.i2l, 1) := by decide +kernel
theorem dL_law_949 : decode cL_law 949 = .ok (.lcmp, 1) := by decide +kernel
theorem dL_law_950 : decode cL_law 950 = .ok (.ifCond .eq 5, 3) := by decide +kernel
theorem dL_law_953 : decode cL_law 953 = .ok (.iconst 0, 1) := by decide +kernel
theorem dL_law_954 : decode cL_law 954 = .ok (.ireturn, 1) := by decide +kernel
theorem dL_law_955 : decode cL_law 955 = .ok (.goto 731, 3) := by decide +kernel
theorem dL_law_958 : decode cL_law 958 = .ok (.aload_n 1, 1) := by decide +kernel
theorem dL_law_959 : decode cL_law 959 = .ok (.aload_n 0, 1) := by decide +kernel
theorem dL_law_960 : decode cL_law 960 = .ok (.iload 4, 2) := by decide +kernel
theorem dL_law_962 : decode cL_law 962 = .ok (.iconst 1, 1) := by decide +kernel
theorem dL_law_963 : decode cL_law 963 = .ok (.iadd, 1) := by decide +kernel
theorem dL_law_964 : decode cL_law 964 = .ok (.iaload, 1) := by decide +kernel
theorem dL_law_965 : decode cL_law 965 = .ok (.aload_n 0, 1) := by decide +kernel
theorem dL_law_966 : decode cL_law 966 = .ok (.iload 4, 2) := by decide +kernel
theorem dL_law_968 : decode cL_law 968 = .ok (.iconst 2, 1) := by decide +kernel
theorem dL_law_969 : decode cL_law 969 = .ok (.iadd, 1) := by decide +kernel
theorem dL_law_970 : decode cL_law 970 = .ok (.iaload, 1) := by decide +kernel
theorem dL_law_971 : decode cL_law 971 = .ok (.aload_n 3, 1) := by decide +kernel
theorem dL_law_972 : decode cL_law 972 = .ok (.invokestatic 151, 3) := by decide +kernel
theorem dL_law_975 : decode cL_law 975 = .ok (.istore 5, 2) := by decide +kernel
theorem dL_law_977 : decode cL_law 977 = .ok (.aload_n 2, 1) := by decide +kernel
theorem dL_law_978 : decode cL_law 978 = .ok (.aload_n 0, 1) := by decide +kernel
theorem dL_law_979 : decode cL_law 979 = .ok (.iload 4, 2) := by decide +kernel
theorem dL_law_981 : decode cL_law 981 = .ok (.iconst 1, 1) := by decide +kernel
theorem dL_law_982 : decode cL_law 982 = .ok (.iadd, 1) := by decide +kernel
theorem dL_law_983 : decode cL_law 983 = .ok (.iaload, 1) := by decide +kernel
theorem dL_law_984 : decode cL_law 984 = .ok (.aload_n 0, 1) := by decide +kernel
theorem dL_law_985 : decode cL_law 985 = .ok (.iload 4, 2) := by decide +kernel
theorem dL_law_987 : decode cL_law 987 = .ok (.iconst 2, 1) := by decide +kernel
theorem dL_law_988 : decode cL_law 988 = .ok (.iadd, 1) := by decide +kernel
theorem dL_law_989 : decode cL_law 989 = .ok (.iaload, 1) := by decide +kernel
theorem dL_law_990 : decode cL_law 990 = .ok (.invokevirtual 153, 3) := by decide +kernel
theorem dL_law_993 : decode cL_law 993 = .ok (.istore 6, 2) := by decide +kernel
theorem dL_law_995 : decode cL_law 995 = .ok (.aload_n 2, 1) := by decide +kernel
theorem dL_law_996 : decode cL_law 996 = .ok (.invokevirtual 102, 3) := by decide +kernel
theorem dL_law_999 : decode cL_law 999 = .ok (.iload 5, 2) := by decide +kernel
theorem dL_law_1001 : decode cL_law 1001 = .ok (.if_icmp .eq 5, 3) := by decide +kernel
theorem dL_law_1004 : decode cL_law 1004 = .ok (.iconst 0, 1) := by decide +kernel
theorem dL_law_1005 : decode cL_law 1005 = .ok (.ireturn, 1) := by decide +kernel
theorem dL_law_1006 : decode cL_law 1006 = .ok (.iload 5, 2) := by decide +kernel
theorem dL_law_1008 : decode cL_law 1008 = .ok (.ifCond .ne 15, 3) := by decide +kernel
theorem dL_law_1011 : decode cL_law 1011 = .ok (.aload_n 3, 1) := by decide +kernel
theorem dL_law_1012 : decode cL_law 1012 = .ok (.iconst 0, 1) := by decide +kernel
theorem dL_law_1013 : decode cL_law 1013 = .ok (.laload, 1) := by decide +kernel
theorem dL_law_1014 : decode cL_law 1014 = .ok (.iload 6, 2) := by decide +kernel
theorem dL_law_1016 : decode cL_law 1016 = .ok (.i2l, 1) := by decide +kernel
theorem dL_law_1017 : decode cL_law 1017 = .ok (.lcmp, 1) := by decide +kernel
theorem dL_law_1018 : decode cL_law 1018 = .ok (.ifCond .eq 5, 3) := by decide +kernel
theorem dL_law_1021 : decode cL_law 1021 = .ok (.iconst 0, 1) := by decide +kernel
theorem dL_law_1022 : decode cL_law 1022 = .ok (.ireturn, 1) := by decide +kernel
theorem dL_law_1023 : decode cL_law 1023 = .ok (.goto 663, 3) := by decide +kernel
theorem dL_law_1026 : decode cL_law 1026 = .ok (.aload_n 1, 1) := by decide +kernel
theorem dL_law_1027 : decode cL_law 1027 = .ok (.aload_n 3, 1) := by decide +kernel
theorem dL_law_1028 : decode cL_law 1028 = .ok (.invokestatic 154, 3) := by decide +kernel
theorem dL_law_1031 : decode cL_law 1031 = .ok (.istore 5, 2) := by decide +kernel
theorem dL_law_1033 : decode cL_law 1033 = .ok (.aload_n 2, 1) := by decide +kernel
theorem dL_law_1034 : decode cL_law 1034 = .ok (.invokevirtual 156, 3) := by decide +kernel
theorem dL_law_1037 : decode cL_law 1037 = .ok (.istore 6, 2) := by decide +kernel
theorem dL_law_1039 : decode cL_law 1039 = .ok (.aload_n 2, 1) := by decide +kernel
theorem dL_law_1040 : decode cL_law 1040 = .ok (.invokevirtual 102, 3) := by decide +kernel
theorem dL_law_1043 : decode cL_law 1043 = .ok (.iload 5, 2) := by decide +kernel
theorem dL_law_1045 : decode cL_law 1045 = .ok (.if_icmp .eq 5, 3) := by decide +kernel
theorem dL_law_1048 : decode cL_law 1048 = .ok (.iconst 0, 1) := by decide +kernel
theorem dL_law_1049 : decode cL_law 1049 = .ok (.ireturn, 1) := by decide +kernel
theorem dL_law_1050 : decode cL_law 1050 = .ok (.iload 5, 2) := by decide +kernel
theorem dL_law_1052 : decode cL_law 1052 = .ok (.ifCond .ne 15, 3) := by decide +kernel
theorem dL_law_1055 : decode cL_law 1055 = .ok (.aload_n 3, 1) := by decide +kernel
theorem dL_law_1056 : decode cL_law 1056 = .ok (.iconst 0, 1) := by decide +kernel
theorem dL_law_1057 : decode cL_law 1057 = .ok (.laload, 1) := by decide +kernel
theorem dL_law_1058 : decode cL_law 1058 = .ok (.iload 6, 2) := by decide +kernel
theorem dL_law_1060 : decode cL_law 1060 = .ok (.i2l, 1) := by decide +kernel
theorem dL_law_1061 : decode cL_law 1061 = .ok (.lcmp, 1) := by decide +kernel
theorem dL_law_1062 : decode cL_law 1062 = .ok (.ifCond .eq 5, 3) := by decide +kernel
theorem dL_law_1065 : decode cL_law 1065 = .ok (.iconst 0, 1) := by decide +kernel
theorem dL_law_1066 : decode cL_law 1066 = .ok (.ireturn, 1) := by decide +kernel
theorem dL_law_1067 : decode cL_law 1067 = .ok (.goto 619, 3) := by decide +kernel
theorem dL_law_1070 : decode cL_law 1070 = .ok (.aload_n 1, 1) := by decide +kernel
theorem dL_law_1071 : decode cL_law 1071 = .ok (.aload_n 0, 1) := by decide +kernel
theorem dL_law_1072 : decode cL_law 1072 = .ok (.iload 4, 2) := by decide +kernel
theorem dL_law_1074 : decode cL_law 1074 = .ok (.iconst 1, 1) := by decide +kernel
theorem dL_law_1075 : decode cL_law 1075 = .ok (.iadd, 1) := by decide +kernel
theorem dL_law_1076 : decode cL_law 1076 = .ok (.iaload, 1) := by decide +kernel
theorem dL_law_1077 : decode cL_law 1077 = .ok (.aload_n 3, 1) := by decide +kernel
theorem dL_law_1078 : decode cL_law 1078 = .ok (.invokestatic 157, 3) := by decide +kernel
theorem dL_law_1081 : decode cL_law 1081 = .ok (.istore 5, 2) := by decide +kernel
theorem dL_law_1083 : decode cL_law 1083 = .ok (.aload_n 2, 1) := by decide +kernel
theorem dL_law_1084 : decode cL_law 1084 = .ok (.aload_n 0, 1) := by decide +kernel
theorem dL_law_1085 : decode cL_law 1085 = .ok (.iload 4, 2) := by decide +kernel
theorem dL_law_1087 : decode cL_law 1087 = .ok (.iconst 1, 1) := by decide +kernel
theorem dL_law_1088 : decode cL_law 1088 = .ok (.iadd, 1) := by decide +kernel
theorem dL_law_1089 : decode cL_law 1089 = .ok (.iaload, 1) := by decide +kernel
theorem dL_law_1090 : decode cL_law 1090 = .ok (.invokevirtual 159, 3) := by decide +kernel
theorem dL_law_1093 : decode cL_law 1093 = .ok (.istore 6, 2) := by decide +kernel
theorem dL_law_1095 : decode cL_law 1095 = .ok (.aload_n 2, 1) := by decide +kernel
theorem dL_law_1096 : decode cL_law 1096 = .ok (.invokevirtual 102, 3) := by decide +kernel
theorem dL_law_1099 : decode cL_law 1099 = .ok (.iload 5, 2) := by decide +kernel
theorem dL_law_1101 : decode cL_law 1101 = .ok (.if_icmp .eq 5, 3) := by decide +kernel
theorem dL_law_1104 : decode cL_law 1104 = .ok (.iconst 0, 1) := by decide +kernel
theorem dL_law_1105 : decode cL_law 1105 = .ok (.ireturn, 1) := by decide +kernel
theorem dL_law_1106 : decode cL_law 1106 = .ok (.iload 5, 2) := by decide +kernel
theorem dL_law_1108 : decode cL_law 1108 = .ok (.ifCond .ne 15, 3) := by decide +kernel
theorem dL_law_1111 : decode cL_law 1111 = .ok (.aload_n 3, 1) := by decide +kernel
theorem dL_law_1112 : decode cL_law 1112 = .ok (.iconst 0, 1) := by decide +kernel
theorem dL_law_1113 : decode cL_law 1113 = .ok (.laload, 1) := by decide +kernel
theorem dL_law_1114 : decode cL_law 1114 = .ok (.iload 6, 2) := by decide +kernel
theorem dL_law_1116 : decode cL_law 1116 = .ok (.i2l, 1) := by decide +kernel
theorem dL_law_1117 : decode cL_law 1117 = .ok (.lcmp, 1) := by decide +kernel
theorem dL_law_1118 : decode cL_law 1118 = .ok (.ifCond .eq 5, 3) := by decide +kernel
theorem dL_law_1121 : decode cL_law 1121 = .ok (.iconst 0, 1) := by decide +kernel
theorem dL_law_1122 : decode cL_law 1122 = .ok (.ireturn, 1) := by decide +kernel
theorem dL_law_1123 : decode cL_law 1123 = .ok (.goto 563, 3) := by decide +kernel
theorem dL_law_1126 : decode cL_law 1126 = .ok (.aload_n 1, 1) := by decide +kernel
theorem dL_law_1127 : decode cL_law 1127 = .ok (.aload_n 0, 1) := by decide +kernel
theorem dL_law_1128 : decode cL_law 1128 = .ok (.iload 4, 2) := by decide +kernel
theorem dL_law_1130 : decode cL_law 1130 = .ok (.iconst 1, 1) := by decide +kernel
theorem dL_law_1131 : decode cL_law 1131 = .ok (.iadd, 1) := by decide +kernel
theorem dL_law_1132 : decode cL_law 1132 = .ok (.iaload, 1) := by decide +kernel
theorem dL_law_1133 : decode cL_law 1133 = .ok (.aload_n 0, 1) := by decide +kernel
theorem dL_law_1134 : decode cL_law 1134 = .ok (.iload 4, 2) := by decide +kernel
theorem dL_law_1136 : decode cL_law 1136 = .ok (.iconst 2, 1) := by decide +kernel
theorem dL_law_1137 : decode cL_law 1137 = .ok (.iadd, 1) := by decide +kernel
theorem dL_law_1138 : decode cL_law 1138 = .ok (.iaload, 1) := by decide +kernel
theorem dL_law_1139 : decode cL_law 1139 = .ok (.aload_n 3, 1) := by decide +kernel
theorem dL_law_1140 : decode cL_law 1140 = .ok (.invokestatic 160, 3) := by decide +kernel
theorem dL_law_1143 : decode cL_law 1143 = .ok (.istore 5, 2) := by decide +kernel
theorem dL_law_1145 : decode cL_law 1145 = .ok (.aload_n 2, 1) := by decide +kernel
theorem dL_law_1146 : decode cL_law 1146 = .ok (.aload_n 0, 1) := by decide +kernel
theorem dL_law_1147 : decode cL_law 1147 = .ok (.iload 4, 2) := by decide +kernel
theorem dL_law_1149 : decode cL_law 1149 = .ok (.iconst 1, 1) := by decide +kernel
theorem dL_law_1150 : decode cL_law 1150 = .ok (.iadd, 1) := by decide +kernel
theorem dL_law_1151 : decode cL_law 1151 = .ok (.iaload, 1) := by decide +kernel
theorem dL_law_1152 : decode cL_law 1152 = .ok (.aload_n 0, 1) := by decide +kernel
theorem dL_law_1153 : decode cL_law 1153 = .ok (.iload 4, 2) := by decide +kernel
theorem dL_law_1155 : decode cL_law 1155 = .ok (.iconst 2, 1) := by decide +kernel
theorem dL_law_1156 : decode cL_law 1156 = .ok (.iadd, 1) := by decide +kernel
theorem dL_law_1157 : decode cL_law 1157 = .ok (.iaload, 1) := by decide +kernel
theorem dL_law_1158 : decode cL_law 1158 = .ok (.invokevirtual 162, 3) := by decide +kernel
theorem dL_law_1161 : decode cL_law 1161 = .ok (.istore 6, 2) := by decide +kernel
theorem dL_law_1163 : decode cL_law 1163 = .ok (.aload_n 2, 1) := by decide +kernel
theorem dL_law_1164 : decode cL_law 1164 = .ok (.invokevirtual 102, 3) := by decide +kernel
theorem dL_law_1167 : decode cL_law 1167 = .ok (.iload 5, 2) := by decide +kernel
theorem dL_law_1169 : decode cL_law 1169 = .ok (.if_icmp .eq 5, 3) := by decide +kernel
theorem dL_law_1172 : decode cL_law 1172 = .ok (.iconst 0, 1) := by decide +kernel
theorem dL_law_1173 : decode cL_law 1173 = .ok (.ireturn, 1) := by decide +kernel
theorem dL_law_1174 : decode cL_law 1174 = .ok (.iload 5, 2) := by decide +kernel
theorem dL_law_1176 : decode cL_law 1176 = .ok (.ifCond .ne 15, 3) := by decide +kernel
theorem dL_law_1179 : decode cL_law 1179 = .ok (.aload_n 3, 1) := by decide +kernel
theorem dL_law_1180 : decode cL_law 1180 = .ok (.iconst 0, 1) := by decide +kernel
theorem dL_law_1181 : decode cL_law 1181 = .ok (.laload, 1) := by decide +kernel
theorem dL_law_1182 : decode cL_law 1182 = .ok (.iload 6, 2) := by decide +kernel
theorem dL_law_1184 : decode cL_law 1184 = .ok (.i2l, 1) := by decide +kernel
theorem dL_law_1185 : decode cL_law 1185 = .ok (.lcmp, 1) := by decide +kernel
theorem dL_law_1186 : decode cL_law 1186 = .ok (.ifCond .eq 5, 3) := by decide +kernel
theorem dL_law_1189 : decode cL_law 1189 = .ok (.iconst 0, 1) := by decide +kernel
theorem dL_law_1190 : decode cL_law 1190 = .ok (.ireturn, 1) := by decide +kernel
theorem dL_law_1191 : decode cL_law 1191 = .ok (.goto 495, 3) := by decide +kernel
theorem dL_law_1194 : decode cL_law 1194 = .ok (.aload_n 1, 1) := by decide +kernel
theorem dL_law_1195 : decode cL_law 1195 = .ok (.aload_n 0, 1) := by decide +kernel
theorem dL_law_1196 : decode cL_law 1196 = .ok (.iload 4, 2) := by decide +kernel
theorem dL_law_1198 : decode cL_law 1198 = .ok (.iconst 1, 1) := by decide +kernel
theorem dL_law_1199 : decode cL_law 1199 = .ok (.iadd, 1) := by decide +kernel
theorem dL_law_1200 : decode cL_law 1200 = .ok (.iaload, 1) := by decide +kernel
theorem dL_law_1201 : decode cL_law 1201 = .ok (.aload_n 3, 1) := by decide +kernel
theorem dL_law_1202 : decode cL_law 1202 = .ok (.invokestatic 163, 3) := by decide +kernel
theorem dL_law_1205 : decode cL_law 1205 = .ok (.istore 5, 2) := by decide +kernel
theorem dL_law_1207 : decode cL_law 1207 = .ok (.aload_n 2, 1) := by decide +kernel
theorem dL_law_1208 : decode cL_law 1208 = .ok (.aload_n 0, 1) := by decide +kernel
theorem dL_law_1209 : decode cL_law 1209 = .ok (.iload 4, 2) := by decide +kernel
theorem dL_law_1211 : decode cL_law 1211 = .ok (.iconst 1, 1) := by decide +kernel
theorem dL_law_1212 : decode cL_law 1212 = .ok (.iadd, 1) := by decide +kernel
theorem dL_law_1213 : decode cL_law 1213 = .ok (.iaload, 1) := by decide +kernel
theorem dL_law_1214 : decode cL_law 1214 = .ok (.invokevirtual 165, 3) := by decide +kernel
theorem dL_law_1217 : decode cL_law 1217 = .ok (.istore 6, 2) := by decide +kernel
theorem dL_law_1219 : decode cL_law 1219 = .ok (.aload_n 2, 1) := by decide +kernel
theorem dL_law_1220 : decode cL_law 1220 = .ok (.invokevirtual 102, 3) := by decide +kernel
theorem dL_law_1223 : decode cL_law 1223 = .ok (.iload 5, 2) := by decide +kernel
theorem dL_law_1225 : decode cL_law 1225 = .ok (.if_icmp .eq 5, 3) := by decide +kernel
theorem dL_law_1228 : decode cL_law 1228 = .ok (.iconst 0, 1) := by decide +kernel
theorem dL_law_1229 : decode cL_law 1229 = .ok (.ireturn, 1) := by decide +kernel
theorem dL_law_1230 : decode cL_law 1230 = .ok (.iload 5, 2) := by decide +kernel
theorem dL_law_1232 : decode cL_law 1232 = .ok (.ifCond .ne 15, 3) := by decide +kernel
theorem dL_law_1235 : decode cL_law 1235 = .ok (.aload_n 3, 1) := by decide +kernel
theorem dL_law_1236 : decode cL_law 1236 = .ok (.iconst 0, 1) := by decide +kernel
theorem dL_law_1237 : decode cL_law 1237 = .ok (.laload, 1) := by decide +kernel
theorem dL_law_1238 : decode cL_law 1238 = .ok (.iload 6, 2) := by decide +kernel
theorem dL_law_1240 : decode cL_law 1240 = .ok (.i2l, 1) := by decide +kernel
theorem dL_law_1241 : decode cL_law 1241 = .ok (.lcmp, 1) := by decide +kernel
theorem dL_law_1242 : decode cL_law 1242 = .ok (.ifCond .eq 5, 3) := by decide +kernel
theorem dL_law_1245 : decode cL_law 1245 = .ok (.iconst 0, 1) := by decide +kernel
theorem dL_law_1246 : decode cL_law 1246 = .ok (.ireturn, 1) := by decide +kernel
theorem dL_law_1247 : decode cL_law 1247 = .ok (.goto 439, 3) := by decide +kernel
theorem dL_law_1250 : decode cL_law 1250 = .ok (.aload_n 1, 1) := by decide +kernel
theorem dL_law_1251 : decode cL_law 1251 = .ok (.aload_n 0, 1) := by decide +kernel
theorem dL_law_1252 : decode cL_law 1252 = .ok (.iload 4, 2) := by decide +kernel
theorem dL_law_1254 : decode cL_law 1254 = .ok (.iconst 1, 1) := by decide +kernel
theorem dL_law_1255 : decode cL_law 1255 = .ok (.iadd, 1) := by decide +kernel
theorem dL_law_1256 : decode cL_law 1256 = .ok (.iaload, 1) := by decide +kernel
theorem dL_law_1257 : decode cL_law 1257 = .ok (.aload_n 0, 1) := by decide +kernel
theorem dL_law_1258 : decode cL_law 1258 = .ok (.iload 4, 2) := by decide +kernel
theorem dL_law_1260 : decode cL_law 1260 = .ok (.iconst 2, 1) := by decide +kernel
theorem dL_law_1261 : decode cL_law 1261 = .ok (.iadd, 1) := by decide +kernel
theorem dL_law_1262 : decode cL_law 1262 = .ok (.iaload, 1) := by decide +kernel
theorem dL_law_1263 : decode cL_law 1263 = .ok (.aload_n 3, 1) := by decide +kernel
theorem dL_law_1264 : decode cL_law 1264 = .ok (.invokestatic 166, 3) := by decide +kernel
theorem dL_law_1267 : decode cL_law 1267 = .ok (.istore 5, 2) := by decide +kernel
theorem dL_law_1269 : decode cL_law 1269 = .ok (.aload_n 2, 1) := by decide +kernel
theorem dL_law_1270 : decode cL_law 1270 = .ok (.aload_n 0, 1) := by decide +kernel
theorem dL_law_1271 : decode cL_law 1271 = .ok (.iload 4, 2) := by decide +kernel
theorem dL_law_1273 : decode cL_law 1273 = .ok (.iconst 1, 1) := by decide +kernel
theorem dL_law_1274 : decode cL_law 1274 = .ok (.iadd, 1) := by decide +kernel
theorem dL_law_1275 : decode cL_law 1275 = .ok (.iaload, 1) := by decide +kernel
theorem dL_law_1276 : decode cL_law 1276 = .ok (.aload_n 0, 1) := by decide +kernel
theorem dL_law_1277 : decode cL_law 1277 = .ok (.iload 4, 2) := by decide +kernel
theorem dL_law_1279 : decode cL_law 1279 = .ok (.iconst 2, 1) := by decide +kernel
theorem dL_law_1280 : decode cL_law 1280 = .ok (.iadd, 1) := by decide +kernel
theorem dL_law_1281 : decode cL_law 1281 = .ok (.iaload, 1) := by decide +kernel
theorem dL_law_1282 : decode cL_law 1282 = .ok (.invokevirtual 168, 3) := by decide +kernel
theorem dL_law_1285 : decode cL_law 1285 = .ok (.istore 6, 2) := by decide +kernel
theorem dL_law_1287 : decode cL_law 1287 = .ok (.aload_n 2, 1) := by decide +kernel
theorem dL_law_1288 : decode cL_law 1288 = .ok (.invokevirtual 102, 3) := by decide +kernel
theorem dL_law_1291 : decode cL_law 1291 = .ok (.iload 5, 2) := by decide +kernel
theorem dL_law_1293 : decode cL_law 1293 = .ok (.if_icmp .eq 5, 3) := by decide +kernel
theorem dL_law_1296 : decode cL_law 1296 = .ok (.iconst 0, 1) := by decide +kernel
theorem dL_law_1297 : decode cL_law 1297 = .ok (.ireturn, 1) := by decide +kernel
theorem dL_law_1298 : decode cL_law 1298 = .ok (.iload 5, 2) := by decide +kernel
theorem dL_law_1300 : decode cL_law 1300 = .ok (.ifCond .ne 15, 3) := by decide +kernel
theorem dL_law_1303 : decode cL_law 1303 = .ok (.aload_n 3, 1) := by decide +kernel
theorem dL_law_1304 : decode cL_law 1304 = .ok (.iconst 0, 1) := by decide +kernel
theorem dL_law_1305 : decode cL_law 1305 = .ok (.laload, 1) := by decide +kernel
theorem dL_law_1306 : decode cL_law 1306 = .ok (.iload 6, 2) := by decide +kernel
theorem dL_law_1308 : decode cL_law 1308 = .ok (.i2l, 1) := by decide +kernel
theorem dL_law_1309 : decode cL_law 1309 = .ok (.lcmp, 1) := by decide +kernel
theorem dL_law_1310 : decode cL_law 1310 = .ok (.ifCond .eq 5, 3) := by decide +kernel
theorem dL_law_1313 : decode cL_law 1313 = .ok (.iconst 0, 1) := by decide +kernel
theorem dL_law_1314 : decode cL_law 1314 = .ok (.ireturn, 1) := by decide +kernel
theorem dL_law_1315 : decode cL_law 1315 = .ok (.goto 371, 3) := by decide +kernel
theorem dL_law_1318 : decode cL_law 1318 = .ok (.aload_n 1, 1) := by decide +kernel
theorem dL_law_1319 : decode cL_law 1319 = .ok (.aload_n 0, 1) := by decide +kernel
theorem dL_law_1320 : decode cL_law 1320 = .ok (.iload 4, 2) := by decide +kernel
theorem dL_law_1322 : decode cL_law 1322 = .ok (.iconst 1, 1) := by decide +kernel
theorem dL_law_1323 : decode cL_law 1323 = .ok (.iadd, 1) := by decide +kernel
theorem dL_law_1324 : decode cL_law 1324 = .ok (.iaload, 1) := by decide +kernel
theorem dL_law_1325 : decode cL_law 1325 = .ok (.aload_n 3, 1) := by decide +kernel
theorem dL_law_1326 : decode cL_law 1326 = .ok (.invokestatic 169, 3) := by decide +kernel
theorem dL_law_1329 : decode cL_law 1329 = .ok (.istore 5, 2) := by decide +kernel
theorem dL_law_1331 : decode cL_law 1331 = .ok (.aload_n 2, 1) := by decide +kernel
theorem dL_law_1332 : decode cL_law 1332 = .ok (.aload_n 0, 1) := by decide +kernel
theorem dL_law_1333 : decode cL_law 1333 = .ok (.iload 4, 2) := by decide +kernel
theorem dL_law_1335 : decode cL_law 1335 = .ok (.iconst 1, 1) := by decide +kernel
theorem dL_law_1336 : decode cL_law 1336 = .ok (.iadd, 1) := by decide +kernel
theorem dL_law_1337 : decode cL_law 1337 = .ok (.iaload, 1) := by decide +kernel
theorem dL_law_1338 : decode cL_law 1338 = .ok (.invokevirtual 171, 3) := by decide +kernel
theorem dL_law_1341 : decode cL_law 1341 = .ok (.istore 6, 2) := by decide +kernel
theorem dL_law_1343 : decode cL_law 1343 = .ok (.aload_n 2, 1) := by decide +kernel
theorem dL_law_1344 : decode cL_law 1344 = .ok (.invokevirtual 102, 3) := by decide +kernel
theorem dL_law_1347 : decode cL_law 1347 = .ok (.iload 5, 2) := by decide +kernel
theorem dL_law_1349 : decode cL_law 1349 = .ok (.if_icmp .eq 5, 3) := by decide +kernel
theorem dL_law_1352 : decode cL_law 1352 = .ok (.iconst 0, 1) := by decide +kernel
theorem dL_law_1353 : decode cL_law 1353 = .ok (.ireturn, 1) := by decide +kernel
theorem dL_law_1354 : decode cL_law 1354 = .ok (.iload 5, 2) := by decide +kernel
theorem dL_law_1356 : decode cL_law 1356 = .ok (.ifCond .ne 15, 3) := by decide +kernel
theorem dL_law_1359 : decode cL_law 1359 = .ok (.aload_n 3, 1) := by decide +kernel
theorem dL_law_1360 : decode cL_law 1360 = .ok (.iconst 0, 1) := by decide +kernel
theorem dL_law_1361 : decode cL_law 1361 = .ok (.laload, 1) := by decide +kernel
theorem dL_law_1362 : decode cL_law 1362 = .ok (.iload 6, 2) := by decide +kernel
theorem dL_law_1364 : decode cL_law 1364 = .ok (.i2l, 1) := by decide +kernel
theorem dL_law_1365 : decode cL_law 1365 = .ok (.lcmp, 1) := by decide +kernel
theorem dL_law_1366 : decode cL_law 1366 = .ok (.ifCond .eq 5, 3) := by decide +kernel
theorem dL_law_1369 : decode cL_law 1369 = .ok (.iconst 0, 1) := by decide +kernel
theorem dL_law_1370 : decode cL_law 1370 = .ok (.ireturn, 1) := by decide +kernel
theorem dL_law_1371 : decode cL_law 1371 = .ok (.goto 315, 3) := by decide +kernel
theorem dL_law_1374 : decode cL_law 1374 = .ok (.aload_n 1, 1) := by decide +kernel
theorem dL_law_1375 : decode cL_law 1375 = .ok (.aload_n 0, 1) := by decide +kernel
theorem dL_law_1376 : decode cL_law 1376 = .ok (.iload 4, 2) := by decide +kernel
theorem dL_law_1378 : decode cL_law 1378 = .ok (.iconst 1, 1) := by decide +kernel
theorem dL_law_1379 : decode cL_law 1379 = .ok (.iadd, 1) := by decide +kernel
theorem dL_law_1380 : decode cL_law 1380 = .ok (.iaload, 1) := by decide +kernel
theorem dL_law_1381 : decode cL_law 1381 = .ok (.aload_n 0, 1) := by decide +kernel
theorem dL_law_1382 : decode cL_law 1382 = .ok (.iload 4, 2) := by decide +kernel
theorem dL_law_1384 : decode cL_law 1384 = .ok (.iconst 2, 1) := by decide +kernel
theorem dL_law_1385 : decode cL_law 1385 = .ok (.iadd, 1) := by decide +kernel
theorem dL_law_1386 : decode cL_law 1386 = .ok (.iaload, 1) := by decide +kernel
theorem dL_law_1387 : decode cL_law 1387 = .ok (.i2l, 1) := by decide +kernel
theorem dL_law_1388 : decode cL_law 1388 = .ok (.bipush 32, 2) := by decide +kernel
theorem dL_law_1390 : decode cL_law 1390 = .ok (.lshl, 1) := by decide +kernel
theorem dL_law_1391 : decode cL_law 1391 = .ok (.aload_n 0, 1) := by decide +kernel
theorem dL_law_1392 : decode cL_law 1392 = .ok (.iload 4, 2) := by decide +kernel
theorem dL_law_1394 : decode cL_law 1394 = .ok (.iconst 3, 1) := by decide +kernel
theorem dL_law_1395 : decode cL_law 1395 = .ok (.iadd, 1) := by decide +kernel
theorem dL_law_1396 : decode cL_law 1396 = .ok (.iaload, 1) := by decide +kernel
theorem dL_law_1397 : decode cL_law 1397 = .ok (.i2l, 1) := by decide +kernel
theorem dL_law_1398 : decode cL_law 1398 = .ok (.ldc2_w 172, 3) := by decide +kernel
theorem dL_law_1401 : decode cL_law 1401 = .ok (.land, 1) := by decide +kernel
theorem dL_law_1402 : decode cL_law 1402 = .ok (.lor, 1) := by decide +kernel
theorem dL_law_1403 : decode cL_law 1403 = .ok (.aload_n 3, 1) := by decide +kernel
theorem dL_law_1404 : decode cL_law 1404 = .ok (.invokestatic 174, 3) := by decide +kernel
theorem dL_law_1407 : decode cL_law 1407 = .ok (.istore 5, 2) := by decide +kernel
theorem dL_law_1409 : decode cL_law 1409 = .ok (.aload_n 2, 1) := by decide +kernel
theorem dL_law_1410 : decode cL_law 1410 = .ok (.aload_n 0, 1) := by decide +kernel
theorem dL_law_1411 : decode cL_law 1411 = .ok (.iload 4, 2) := by decide +kernel
theorem dL_law_1413 : decode cL_law 1413 = .ok (.iconst 1, 1) := by decide +kernel
theorem dL_law_1414 : decode cL_law 1414 = .ok (.iadd, 1) := by decide +kernel
theorem dL_law_1415 : decode cL_law 1415 = .ok (.iaload, 1) := by decide +kernel
theorem dL_law_1416 : decode cL_law 1416 = .ok (.aload_n 0, 1) := by decide +kernel
theorem dL_law_1417 : decode cL_law 1417 = .ok (.iload 4, 2) := by decide +kernel
theorem dL_law_1419 : decode cL_law 1419 = .ok (.iconst 2, 1) := by decide +kernel
theorem dL_law_1420 : decode cL_law 1420 = .ok (.iadd, 1) := by decide +kernel
theorem dL_law_1421 : decode cL_law 1421 = .ok (.iaload, 1) := by decide +kernel
theorem dL_law_1422 : decode cL_law 1422 = .ok (.i2l, 1) := by decide +kernel
theorem dL_law_1423 : decode cL_law 1423 = .ok (.bipush 32, 2) := by decide +kernel
theorem dL_law_1425 : decode cL_law 1425 = .ok (.lshl, 1) := by decide +kernel
theorem dL_law_1426 : decode cL_law 1426 = .ok (.aload_n 0, 1) := by decide +kernel
theorem dL_law_1427 : decode cL_law 1427 = .ok (.iload 4, 2) := by decide +kernel
theorem dL_law_1429 : decode cL_law 1429 = .ok (.iconst 3, 1) := by decide +kernel
theorem dL_law_1430 : decode cL_law 1430 = .ok (.iadd, 1) := by decide +kernel
theorem dL_law_1431 : decode cL_law 1431 = .ok (.iaload, 1) := by decide +kernel
theorem dL_law_1432 : decode cL_law 1432 = .ok (.i2l, 1) := by decide +kernel
theorem dL_law_1433 : decode cL_law 1433 = .ok (.ldc2_w 172, 3) := by decide +kernel
theorem dL_law_1436 : decode cL_law 1436 = .ok (.land, 1) := by decide +kernel
theorem dL_law_1437 : decode cL_law 1437 = .ok (.lor, 1) := by decide +kernel
theorem dL_law_1438 : decode cL_law 1438 = .ok (.invokevirtual 177, 3) := by decide +kernel
theorem dL_law_1441 : decode cL_law 1441 = .ok (.istore 6, 2) := by decide +kernel
theorem dL_law_1443 : decode cL_law 1443 = .ok (.aload_n 2, 1) := by decide +kernel
theorem dL_law_1444 : decode cL_law 1444 = .ok (.invokevirtual 102, 3) := by decide +kernel
theorem dL_law_1447 : decode cL_law 1447 = .ok (.iload 5, 2) := by decide +kernel
theorem dL_law_1449 : decode cL_law 1449 = .ok (.if_icmp .eq 5, 3) := by decide +kernel
theorem dL_law_1452 : decode cL_law 1452 = .ok (.iconst 0, 1) := by decide +kernel
theorem dL_law_1453 : decode cL_law 1453 = .ok (.ireturn, 1) := by decide +kernel
theorem dL_law_1454 : decode cL_law 1454 = .ok (.iload 5, 2) := by decide +kernel
theorem dL_law_1456 : decode cL_law 1456 = .ok (.ifCond .ne 15, 3) := by decide +kernel
theorem dL_law_1459 : decode cL_law 1459 = .ok (.aload_n 3, 1) := by decide +kernel
theorem dL_law_1460 : decode cL_law 1460 = .ok (.iconst 0, 1) := by decide +kernel
theorem dL_law_1461 : decode cL_law 1461 = .ok (.laload, 1) := by decide +kernel
theorem dL_law_1462 : decode cL_law 1462 = .ok (.iload 6, 2) := by decide +kernel
theorem dL_law_1464 : decode cL_law 1464 = .ok (.i2l, 1) := by decide +kernel
theorem dL_law_1465 : decode cL_law 1465 = .ok (.lcmp, 1) := by decide +kernel
theorem dL_law_1466 : decode cL_law 1466 = .ok (.ifCond .eq 5, 3) := by decide +kernel
theorem dL_law_1469 : decode cL_law 1469 = .ok (.iconst 0, 1) := by decide +kernel
theorem dL_law_1470 : decode cL_law 1470 = .ok (.ireturn, 1) := by decide +kernel
theorem dL_law_1471 : decode cL_law 1471 = .ok (.goto 215, 3) := by decide +kernel
theorem dL_law_1474 : decode cL_law 1474 = .ok (.aload_n 1, 1) := by decide +kernel
theorem dL_law_1475 : decode cL_law 1475 = .ok (.aload_n 0, 1) := by decide +kernel
theorem dL_law_1476 : decode cL_law 1476 = .ok (.iload 4, 2) := by decide +kernel
theorem dL_law_1478 : decode cL_law 1478 = .ok (.iconst 1, 1) := by decide +kernel
theorem dL_law_1479 : decode cL_law 1479 = .ok (.iadd, 1) := by decide +kernel
theorem dL_law_1480 : decode cL_law 1480 = .ok (.iaload, 1) := by decide +kernel
theorem dL_law_1481 : decode cL_law 1481 = .ok (.i2l, 1) := by decide +kernel
theorem dL_law_1482 : decode cL_law 1482 = .ok (.bipush 32, 2) := by decide +kernel
theorem dL_law_1484 : decode cL_law 1484 = .ok (.lshl, 1) := by decide +kernel
theorem dL_law_1485 : decode cL_law 1485 = .ok (.aload_n 0, 1) := by decide +kernel
theorem dL_law_1486 : decode cL_law 1486 = .ok (.iload 4, 2) := by decide +kernel
theorem dL_law_1488 : decode cL_law 1488 = .ok (.iconst 2, 1) := by decide +kernel
theorem dL_law_1489 : decode cL_law 1489 = .ok (.iadd, 1) := by decide +kernel
theorem dL_law_1490 : decode cL_law 1490 = .ok (.iaload, 1) := by decide +kernel
theorem dL_law_1491 : decode cL_law 1491 = .ok (.i2l, 1) := by decide +kernel
theorem dL_law_1492 : decode cL_law 1492 = .ok (.ldc2_w 172, 3) := by decide +kernel
theorem dL_law_1495 : decode cL_law 1495 = .ok (.land, 1) := by decide +kernel
theorem dL_law_1496 : decode cL_law 1496 = .ok (.lor, 1) := by decide +kernel
theorem dL_law_1497 : decode cL_law 1497 = .ok (.aload_n 0, 1) := by decide +kernel
theorem dL_law_1498 : decode cL_law 1498 = .ok (.iload 4, 2) := by decide +kernel
theorem dL_law_1500 : decode cL_law 1500 = .ok (.iconst 3, 1) := by decide +kernel
theorem dL_law_1501 : decode cL_law 1501 = .ok (.iadd, 1) := by decide +kernel
theorem dL_law_1502 : decode cL_law 1502 = .ok (.iaload, 1) := by decide +kernel
theorem dL_law_1503 : decode cL_law 1503 = .ok (.aload_n 3, 1) := by decide +kernel
theorem dL_law_1504 : decode cL_law 1504 = .ok (.invokestatic 178, 3) := by decide +kernel
theorem dL_law_1507 : decode cL_law 1507 = .ok (.istore 5, 2) := by decide +kernel
theorem dL_law_1509 : decode cL_law 1509 = .ok (.aload_n 2, 1) := by decide +kernel
theorem dL_law_1510 : decode cL_law 1510 = .ok (.aload_n 0, 1) := by decide +kernel
theorem dL_law_1511 : decode cL_law 1511 = .ok (.iload 4, 2) := by decide +kernel
theorem dL_law_1513 : decode cL_law 1513 = .ok (.iconst 1, 1) := by decide +kernel
theorem dL_law_1514 : decode cL_law 1514 = .ok (.iadd, 1) := by decide +kernel
theorem dL_law_1515 : decode cL_law 1515 = .ok (.iaload, 1) := by decide +kernel
theorem dL_law_1516 : decode cL_law 1516 = .ok (.i2l, 1) := by decide +kernel
theorem dL_law_1517 : decode cL_law 1517 = .ok (.bipush 32, 2) := by decide +kernel
theorem dL_law_1519 : decode cL_law 1519 = .ok (.lshl, 1) := by decide +kernel
theorem dL_law_1520 : decode cL_law 1520 = .ok (.aload_n 0, 1) := by decide +kernel
theorem dL_law_1521 : decode cL_law 1521 = .ok (.iload 4, 2) := by decide +kernel
theorem dL_law_1523 : decode cL_law 1523 = .ok (.iconst 2, 1) := by decide +kernel
theorem dL_law_1524 : decode cL_law 1524 = .ok (.iadd, 1) := by decide +kernel
theorem dL_law_1525 : decode cL_law 1525 = .ok (.iaload, 1) := by decide +kernel
theorem dL_law_1526 : decode cL_law 1526 = .ok (.i2l, 1) := by decide +kernel
theorem dL_law_1527 : decode cL_law 1527 = .ok (.ldc2_w 172, 3) := by decide +kernel
theorem dL_law_1530 : decode cL_law 1530 = .ok (.land, 1) := by decide +kernel
theorem dL_law_1531 : decode cL_law 1531 = .ok (.lor, 1) := by decide +kernel
theorem dL_law_1532 : decode cL_law 1532 = .ok (.aload_n 0, 1) := by decide +kernel
theorem dL_law_1533 : decode cL_law 1533 = .ok (.iload 4, 2) := by decide +kernel
theorem dL_law_1535 : decode cL_law 1535 = .ok (.iconst 3, 1) := by decide +kernel
theorem dL_law_1536 : decode cL_law 1536 = .ok (.iadd, 1) := by decide +kernel
theorem dL_law_1537 : decode cL_law 1537 = .ok (.iaload, 1) := by decide +kernel
theorem dL_law_1538 : decode cL_law 1538 = .ok (.invokevirtual 181, 3) := by decide +kernel
theorem dL_law_1541 : decode cL_law 1541 = .ok (.istore 6, 2) := by decide +kernel
theorem dL_law_1543 : decode cL_law 1543 = .ok (.aload_n 2, 1) := by decide +kernel
theorem dL_law_1544 : decode cL_law 1544 = .ok (.invokevirtual 102, 3) := by decide +kernel
theorem dL_law_1547 : decode cL_law 1547 = .ok (.iload 5, 2) := by decide +kernel
theorem dL_law_1549 : decode cL_law 1549 = .ok (.if_icmp .eq 5, 3) := by decide +kernel
theorem dL_law_1552 : decode cL_law 1552 = .ok (.iconst 0, 1) := by decide +kernel
theorem dL_law_1553 : decode cL_law 1553 = .ok (.ireturn, 1) := by decide +kernel
theorem dL_law_1554 : decode cL_law 1554 = .ok (.iload 5, 2) := by decide +kernel
theorem dL_law_1556 : decode cL_law 1556 = .ok (.ifCond .ne 15, 3) := by decide +kernel
theorem dL_law_1559 : decode cL_law 1559 = .ok (.aload_n 3, 1) := by decide +kernel
theorem dL_law_1560 : decode cL_law 1560 = .ok (.iconst 0, 1) := by decide +kernel
theorem dL_law_1561 : decode cL_law 1561 = .ok (.laload, 1) := by decide +kernel
theorem dL_law_1562 : decode cL_law 1562 = .ok (.iload 6, 2) := by decide +kernel
theorem dL_law_1564 : decode cL_law 1564 = .ok (.i2l, 1) := by decide +kernel
theorem dL_law_1565 : decode cL_law 1565 = .ok (.lcmp, 1) := by decide +kernel
theorem dL_law_1566 : decode cL_law 1566 = .ok (.ifCond .eq 5, 3) := by decide +kernel
theorem dL_law_1569 : decode cL_law 1569 = .ok (.iconst 0, 1) := by decide +kernel
theorem dL_law_1570 : decode cL_law 1570 = .ok (.ireturn, 1) := by decide +kernel
theorem dL_law_1571 : decode cL_law 1571 = .ok (.goto 115, 3) := by decide +kernel
theorem dL_law_1574 : decode cL_law 1574 = .ok (.aload_n 1, 1) := by decide +kernel
theorem dL_law_1575 : decode cL_law 1575 = .ok (.aload_n 0, 1) := by decide +kernel
theorem dL_law_1576 : decode cL_law 1576 = .ok (.iload 4, 2) := by decide +kernel
theorem dL_law_1578 : decode cL_law 1578 = .ok (.iconst 1, 1) := by decide +kernel
theorem dL_law_1579 : decode cL_law 1579 = .ok (.iadd, 1) := by decide +kernel
theorem dL_law_1580 : decode cL_law 1580 = .ok (.iaload, 1) := by decide +kernel
theorem dL_law_1581 : decode cL_law 1581 = .ok (.aload_n 3, 1) := by decide +kernel
theorem dL_law_1582 : decode cL_law 1582 = .ok (.invokestatic 182, 3) := by decide +kernel
theorem dL_law_1585 : decode cL_law 1585 = .ok (.istore 5, 2) := by decide +kernel
theorem dL_law_1587 : decode cL_law 1587 = .ok (.aload_n 2, 1) := by decide +kernel
theorem dL_law_1588 : decode cL_law 1588 = .ok (.aload_n 0, 1) := by decide +kernel
theorem dL_law_1589 : decode cL_law 1589 = .ok (.iload 4, 2) := by decide +kernel
theorem dL_law_1591 : decode cL_law 1591 = .ok (.iconst 1, 1) := by decide +kernel
theorem dL_law_1592 : decode cL_law 1592 = .ok (.iadd, 1) := by decide +kernel
theorem dL_law_1593 : decode cL_law 1593 = .ok (.iaload, 1) := by decide +kernel
theorem dL_law_1594 : decode cL_law 1594 = .ok (.invokevirtual 184, 3) := by decide +kernel
theorem dL_law_1597 : decode cL_law 1597 = .ok (.istore 6, 2) := by decide +kernel
theorem dL_law_1599 : decode cL_law 1599 = .ok (.aload_n 2, 1) := by decide +kernel
theorem dL_law_1600 : decode cL_law 1600 = .ok (.invokevirtual 102, 3) := by decide +kernel
theorem dL_law_1603 : decode cL_law 1603 = .ok (.iload 5, 2) := by decide +kernel
theorem dL_law_1605 : decode cL_law 1605 = .ok (.if_icmp .eq 5, 3) := by decide +kernel
theorem dL_law_1608 : decode cL_law 1608 = .ok (.iconst 0, 1) := by decide +kernel
theorem dL_law_1609 : decode cL_law 1609 = .ok (.ireturn, 1) := by decide +kernel
theorem dL_law_1610 : decode cL_law 1610 = .ok (.iload 5, 2) := by decide +kernel
theorem dL_law_1612 : decode cL_law 1612 = .ok (.ifCond .ne 15, 3) := by decide +kernel
theorem dL_law_1615 : decode cL_law 1615 = .ok (.aload_n 3, 1) := by decide +kernel
theorem dL_law_1616 : decode cL_law 1616 = .ok (.iconst 0, 1) := by decide +kernel
theorem dL_law_1617 : decode cL_law 1617 = .ok (.laload, 1) := by decide +kernel
theorem dL_law_1618 : decode cL_law 1618 = .ok (.iload 6, 2) := by decide +kernel
theorem dL_law_1620 : decode cL_law 1620 = .ok (.i2l, 1) := by decide +kernel
theorem dL_law_1621 : decode cL_law 1621 = .ok (.lcmp, 1) := by decide +kernel
theorem dL_law_1622 : decode cL_law 1622 = .ok (.ifCond .eq 5, 3) := by decide +kernel
theorem dL_law_1625 : decode cL_law 1625 = .ok (.iconst 0, 1) := by decide +kernel
theorem dL_law_1626 : decode cL_law 1626 = .ok (.ireturn, 1) := by decide +kernel
theorem dL_law_1627 : decode cL_law 1627 = .ok (.goto 59, 3) := by decide +kernel
theorem dL_law_1630 : decode cL_law 1630 = .ok (.aload_n 1, 1) := by decide +kernel
theorem dL_law_1631 : decode cL_law 1631 = .ok (.aload_n 0, 1) := by decide +kernel
theorem dL_law_1632 : decode cL_law 1632 = .ok (.iload 4, 2) := by decide +kernel
theorem dL_law_1634 : decode cL_law 1634 = .ok (.iconst 1, 1) := by decide +kernel
theorem dL_law_1635 : decode cL_law 1635 = .ok (.iadd, 1) := by decide +kernel
theorem dL_law_1636 : decode cL_law 1636 = .ok (.iaload, 1) := by decide +kernel
theorem dL_law_1637 : decode cL_law 1637 = .ok (.aload_n 3, 1) := by decide +kernel
theorem dL_law_1638 : decode cL_law 1638 = .ok (.invokestatic 185, 3) := by decide +kernel
theorem dL_law_1641 : decode cL_law 1641 = .ok (.istore 5, 2) := by decide +kernel
theorem dL_law_1643 : decode cL_law 1643 = .ok (.aload_n 2, 1) := by decide +kernel
theorem dL_law_1644 : decode cL_law 1644 = .ok (.aload_n 0, 1) := by decide +kernel
theorem dL_law_1645 : decode cL_law 1645 = .ok (.iload 4, 2) := by decide +kernel
theorem dL_law_1647 : decode cL_law 1647 = .ok (.iconst 1, 1) := by decide +kernel
theorem dL_law_1648 : decode cL_law 1648 = .ok (.iadd, 1) := by decide +kernel
theorem dL_law_1649 : decode cL_law 1649 = .ok (.iaload, 1) := by decide +kernel
theorem dL_law_1650 : decode cL_law 1650 = .ok (.invokevirtual 187, 3) := by decide +kernel
theorem dL_law_1653 : decode cL_law 1653 = .ok (.istore 6, 2) := by decide +kernel
theorem dL_law_1655 : decode cL_law 1655 = .ok (.aload_n 2, 1) := by decide +kernel
theorem dL_law_1656 : decode cL_law 1656 = .ok (.invokevirtual 102, 3) := by decide +kernel
theorem dL_law_1659 : decode cL_law 1659 = .ok (.iload 5, 2) := by decide +kernel
theorem dL_law_1661 : decode cL_law 1661 = .ok (.if_icmp .eq 5, 3) := by decide +kernel
theorem dL_law_1664 : decode cL_law 1664 = .ok (.iconst 0, 1) := by decide +kernel
theorem dL_law_1665 : decode cL_law 1665 = .ok (.ireturn, 1) := by decide +kernel
theorem dL_law_1666 : decode cL_law 1666 = .ok (.iload 5, 2) := by decide +kernel
theorem dL_law_1668 : decode cL_law 1668 = .ok (.ifCond .ne 15, 3) := by decide +kernel
theorem dL_law_1671 : decode cL_law 1671 = .ok (.aload_n 3, 1) := by decide +kernel
theorem dL_law_1672 : decode cL_law 1672 = .ok (.iconst 0, 1) := by decide +kernel
theorem dL_law_1673 : decode cL_law 1673 = .ok (.laload, 1) := by decide +kernel
theorem dL_law_1674 : decode cL_law 1674 = .ok (.iload 6, 2) := by decide +kernel
theorem dL_law_1676 : decode cL_law 1676 = .ok (.i2l, 1) := by decide +kernel
theorem dL_law_1677 : decode cL_law 1677 = .ok (.lcmp, 1) := by decide +kernel
theorem dL_law_1678 : decode cL_law 1678 = .ok (.ifCond .eq 5, 3) := by decide +kernel
theorem dL_law_1681 : decode cL_law 1681 = .ok (.iconst 0, 1) := by decide +kernel
theorem dL_law_1682 : decode cL_law 1682 = .ok (.ireturn, 1) := by decide +kernel
theorem dL_law_1683 : decode cL_law 1683 = .ok (.goto 3, 3) := by decide +kernel
theorem dL_law_1686 : decode cL_law 1686 = .ok (.iinc 4 5, 3) := by decide +kernel
theorem dL_law_1689 : decode cL_law 1689 = .ok (.goto (-1666), 3) := by decide +kernel
theorem dL_law_1692 : decode cL_law 1692 = .ok (.iconst 1, 1) := by decide +kernel
theorem dL_law_1693 : decode cL_law 1693 = .ok (.ireturn, 1) := by decide +kernel
end
section
/-! ===== the cells of the two objects and of the law's row, at the addresses z, z + 1 ..: what kind each is, and what it holds ===== -/
abbrev Mem9 : Type := Nat → Nat → Int32
abbrev Out9 : Type := Option Value ⊕ String
abbrev Re9 : Type := Option (Out9 × Mem9)
def wr9 (M : Mem9) (a k : Nat) (v : Int32) : Mem9 := fun a' k' => if a' = a ∧ k' = k then v else M a' k'
/-- kinds: 0 Gate, 1 Lane, 2 LorryArms, 3 LorryArmsModel; 10 ints, 11 booleans, 12 chars, 13 longs, 14 Lanes, 15 the remembered Gates, 16 the saved Gates; and an array's length -/
def gk9 (j : Nat) : Nat × Nat := if j = 0 then (0, 0) else if j = 1 then (14, 3) else if j = 2 then (10, 3) else if (j - 3) % 6 = 0 then (1, 0) else if (j - 3) % 6 ≤ 2 then (10, 6) else (11, 6)
def kd9 (i : Nat) : Nat × Nat :=
  if i = 0 then (2, 0) else if i = 1 then (12, 120) else if i < 44 then gk9 ((i - 2) % 21) else if i = 44 then (15, 14) else if i = 45 then (16, 2) else if i = 46 then (11, 2)
  else if i < 383 then gk9 ((i - 47) % 21) else if i = 383 then (3, 0) else if i = 384 then (10, 120) else if i = 385 then (10, 121) else if i = 386 then (10, 121) else if i = 387 then (10, 1694)
  else if i = 388 then (10, 242) else if i = 389 then (11, 2) else if i = 390 then (11, 6) else (13, 1)
def el9 (t a i : Nat) : Nat := if t = 14 then a + 2 + 6 * i else if t = 15 then a + 3 + 21 * i else a + 296 + 21 * i
def mk9 (ca : Nat → ClassId) (a : Nat) (m : Nat → Int32) (kd : Nat × Nat) : va_E := match kd.1 with
  | 0 => .inr (0, [.ref (a + 1), .ref (a + 2), .int (m 2), .int (m 3)])
  | 1 => .inr (1, [.ref (a + 1), .ref (a + 2), .ref (a + 3), .ref (a + 4), .ref (a + 5), .int (m 5), .int (m 6), .int (m 7), .int (m 8), .int (m 9), .int (m 10), .int (m 11), .int (m 12), .int (m 13), .int (m 14), .int (m 15), .int (m 16)])
  | 2 => .inr (2, [.ref (a + 1), .int (m 1), .ref (a + 2), .ref (a + 23), .ref (a + 44), .int (m 5), .int (m 6), .ref (a + 45), .ref (a + 46)])
  | 3 => .inr (3, [.int (m 0), .ref (a + 1), .int (m 2), .ref (a + 2), .ref (a + 3), .ref (a + 4), .int (m 6), .ref (a + 5), .ref (a + 6), .ref (a + 7), .int (m 10), .int (m 11), .int (m 12)])
  | 10 => .inl (ca 0, kd.2, .inl m)
  | 11 => .inl (ca 1, kd.2, .inl m)
  | 12 => .inl (ca 2, kd.2, .inl m)
  | 13 => .inl (ca 3, kd.2, .inr (.inl (fun k => (m k).toInt64)))
  | 14 => .inl (ca 4, kd.2, .inr (.inr (.inr (.inr (fun k => some (a + 2 + 6 * k))))))
  | 15 => .inl (ca 5, kd.2, .inr (.inr (.inr (.inr (fun k => some (a + 3 + 21 * k))))))
  | _ => .inl (ca 5, kd.2, .inr (.inr (.inr (.inr (fun k => some (a + 296 + 21 * k))))))
def WS9 (z : Nat) (ca : Nat → ClassId) (M : Mem9) : va_W := (List.range 392).map fun i => (z + i, mk9 ca (z + i) (M (z + i)) (kd9 i))
def A9 (z : Nat) : Nat → Prop := fun q => z ≤ q
def tys9 (ca : Nat → ClassId) : List (ClassId × FieldType) := [(ca 0, .int), (ca 1, .boolean), (ca 2, .char), (ca 3, .long), (ca 4, .object "LorryArms$Lane"), (ca 5, .object "LorryArms$Gate")]
theorem WS9_get {z i : Nat} {ca : Nat → ClassId} {M : Mem9} (h : i < 392) : (WS9 z ca M)[i]? = some (z + i, mk9 ca (z + i) (M (z + i)) (kd9 i)) := by
  unfold WS9
  rw [List.getElem?_map, List.getElem?_range h]
  rfl
theorem WS9_inv {z i : Nat} {ca : Nat → ClassId} {M : Mem9} {q : Nat × va_E} (h : (WS9 z ca M)[i]? = some q) : i < 392 ∧ q = (z + i, mk9 ca (z + i) (M (z + i)) (kd9 i)) := by
  have hi : i < 392 := by
    have h1 := (List.getElem?_eq_some_iff.mp h).1
    unfold WS9 at h1
    rw [List.length_map, List.length_range] at h1
    exact h1
  rw [WS9_get hi] at h
  exact ⟨hi, (Option.some.inj h).symm⟩
theorem WS9_D (z : Nat) (ca : Nat → ClassId) (M : Mem9) : va_D (A9 z) (WS9 z ca M) := by
  refine ⟨fun i j p q hp hq e => ?_, fun k q hq => ?_⟩
  · have h1 := (WS9_inv hp).2
    have h2 := (WS9_inv hq).2
    subst h1; subst h2
    exact Nat.add_left_cancel e
  · have h1 := (WS9_inv hq).2
    subst h1
    exact Nat.le_add_right z k
theorem WS9_set {z i : Nat} {ca : Nat → ClassId} {M M' : Mem9} {e : va_E} (hi : i < 392) (hM : ∀ a, a ≠ z + i → M' a = M a) (he : mk9 ca (z + i) (M' (z + i)) (kd9 i) = e) : (WS9 z ca M).set i (z + i, e) = WS9 z ca M' := by
  apply List.ext_getElem?
  intro j
  by_cases hj : j < 392
  · rw [WS9_get hj]
    by_cases hij : i = j
    · subst hij
      rw [List.getElem?_set_self (by unfold WS9; rw [List.length_map, List.length_range]; exact hi), he]
    · rw [List.getElem?_set_ne hij, WS9_get hj, hM (z + j) (fun q => hij (Nat.add_left_cancel q).symm)]
  · rw [List.getElem?_eq_none (by rw [List.length_set]; unfold WS9; rw [List.length_map, List.length_range]; omega), List.getElem?_eq_none (by unfold WS9; rw [List.length_map, List.length_range]; omega)]
theorem wr9_ne {M : Mem9} {a k : Nat} {v : Int32} {b : Nat} (h : b ≠ a) : wr9 M a k v b = M b := by
  funext j
  simp [wr9, h]
theorem wr9_eq {M : Mem9} {a k : Nat} {v : Int32} : wr9 M a k v a = fun j => if j = k then v else M a j := by
  funext j
  simp [wr9]
/-! ===== what a method's text may do, as functions that may fail ===== -/
abbrev okO9 (z a ci : Nat) : Prop := z ≤ a ∧ a < z + 392 ∧ (kd9 (a - z)).1 = ci
abbrev okA9 (z a t : Nat) (i : Int32) : Prop := z ≤ a ∧ a < z + 392 ∧ (kd9 (a - z)).1 = t ∧ 0 ≤ i.toInt ∧ i.toInt < ((kd9 (a - z)).2 : Int)
abbrev b9 (v : Int32) : Prop := v = 0 ∨ v = 1
def gf9 (z : Nat) (M : Mem9) (a ci k : Nat) : Option Int32 := if okO9 z a ci then some (M a k) else none
def rf9 (z a ci off : Nat) : Option Nat := if okO9 z a ci then some (a + off) else none
def pf9 (z : Nat) (M : Mem9) (a ci k : Nat) (v : Int32) : Option Mem9 := if okO9 z a ci then some (wr9 M a k v) else none
def pz9 (z : Nat) (M : Mem9) (a ci k : Nat) (v : Int32) : Option Mem9 := if okO9 z a ci ∧ b9 v then some (wr9 M a k v) else none
def ld9 (z : Nat) (M : Mem9) (t a : Nat) (i : Int32) : Option Int32 := if okA9 z a t i then some (M a i.toNatClampNeg) else none
def la9 (z : Nat) (t a : Nat) (i : Int32) : Option Nat := if okA9 z a t i then some (el9 t a i.toNatClampNeg) else none
def st9 (z : Nat) (M : Mem9) (a : Nat) (i v : Int32) : Option Mem9 := if okA9 z a 10 i then some (wr9 M a i.toNatClampNeg v) else none
def sz9 (z : Nat) (M : Mem9) (a : Nat) (i v : Int32) : Option Mem9 := if okA9 z a 11 i ∧ b9 v then some (wr9 M a i.toNatClampNeg v) else none
def sc9 (z : Nat) (M : Mem9) (a : Nat) (i v : Int32) : Option Mem9 := if okA9 z a 12 i ∧ vp_nar .char v = v then some (wr9 M a i.toNatClampNeg v) else none
def sl9 (z : Nat) (M : Mem9) (a : Nat) (i v : Int32) : Option Mem9 := if okA9 z a 13 i then some (wr9 M a i.toNatClampNeg v) else none
def dv9 (x y : Int32) : Option Int32 := if y = 0 then none else some (x / y)
def rm9 (x y : Int32) : Option Int32 := if y = 0 then none else some (x - x / y * y)
def dl9 (x y : Int64) : Option Int64 := if y = 0 then none else some (x / y)
def rl9 (x y : Int64) : Option Int64 := if y = 0 then none else some (x - x / y * y)
def nm9 {α : Type} (e : α) (K : α → Re9) : Re9 := K e
def iv9 (z b ci : Nat) (r : Re9) : Re9 := if okO9 z b ci then r else none
def bi9 (r : Re9) (K : Int32 → Mem9 → Re9) : Re9 := match r with
  | some (.inl (some (.int v)), M) => K v M
  | some (.inr E, M) => some (.inr E, M)
  | _ => none
def bl9 (r : Re9) (K : Int64 → Mem9 → Re9) : Re9 := match r with
  | some (.inl (some (.long v)), M) => K v M
  | some (.inr E, M) => some (.inr E, M)
  | _ => none
def bv9 (r : Re9) (K : Mem9 → Re9) : Re9 := match r with
  | some (.inl none, M) => K M
  | some (.inr E, M) => some (.inr E, M)
  | _ => none
/-- a call under handlers: H9 by the exception's class -/
def bh9 (r : Re9) (K : Int32 → Mem9 → Re9) (X : String → Mem9 → Re9) : Re9 := match r with
  | some (.inl (some (.int v)), M) => K v M
  | some (.inr E, M) => X E M
  | _ => none
def ri9 (v : Int32) (M : Mem9) : Re9 := some (.inl (some (.int v)), M)
def rz9 (v : Int32) (M : Mem9) : Re9 := if b9 v then some (.inl (some (.int v)), M) else none
def rv9 (M : Mem9) : Re9 := some (.inl none, M)
def rj9 (v : Int64) (M : Mem9) : Re9 := some (.inl (some (.long v)), M)
def tx9 (E : String) (M : Mem9) : Re9 := some (.inr E, M)
def fx9 {α : Type} (bot : α) (F : α → α) : Nat → α
  | 0 => bot
  | n + 1 => F (fx9 bot F n)
def FU9 : Nat := 6000
/-! ===== the tables' words, and what holds of a state ===== -/
def gw9 : List Cond := lw_tbl.filter goodWord
theorem gw9_in {w : Cond} (i : Nat) (h : lw_tbl[i]? = some w) (hg : goodWord w = true) : w ∈ gw9 := List.mem_filter.mpr ⟨List.mem_of_getElem? h, hg⟩
def names9 : List String := ["java/lang/RuntimeException", "java/lang/Exception"]
def excs9 : List String := ["java/lang/IllegalArgumentException", "java/lang/IllegalStateException", "java/lang/IndexOutOfBoundsException"]
def strs9 : List (String × Nat × String) := [("LorryArms", 46, "a character code is 0 to 255"), ("LorryArms", 53, "the text is full"), ("LorryArms", 70, "the text is not a gate"), ("LorryArms", 127, "what is 0 to 9"), ("LorryArms", 177, "there is no such lane"), ("LorryArms", 142, "what is 0 to 7"), ("LorryArms", 183, "there is no such vehicle"), ("LorryArms", 157, "what is 0 to 4"), ("LorryArms", 166, "a setting is 0 to 2"), ("LorryArms", 187, "there are 3 lanes"), ("LorryArms", 185, "a length is 2 to 12"), ("LorryArms", 198, "there are 6 vehicles in the lane"), ("LorryArms", 203, "the arm is whole, or a vehicle is under it"), ("LorryArms", 208, "a run is 1 to 60 ticks"), ("LorryArms", 213, "no setting, or a value out of its range"), ("LorryArms", 218, "no state is remembered"), ("LorryArms", 231, "n is 1 to 400"), ("LorryArms", 245, "a script has 1 to 3 commands"), ("LorryArms", 251, "the script is negative or too long"), ("LorryArms", 258, "m is 1 to 60"), ("LorryArms", 277, "a save slot is 0 or 1"), ("LorryArms", 275, "nothing has been saved in this slot")]
abbrev Nv9 : Type := Nat × Nat × (Nat → Int32) × va_G × (Nat → ClassId)
def EV9 (z : Nat) (N : Nv9) (U : State) : Prop := match N with
  | (sb, L, xs, D, ca) => va_K D vwCl (tys9 ca) U ∧ va_X sb L xs U U.heap ∧ sb < z ∧ vx_Zq Bundle.tN "UNASSIGNED_STACK" Bundle.steD (A9 z) U U.heap ∧ vx_Zq Bundle.tN "SUPPRESSED_SENTINEL" Bundle.listD (A9 z) U U.heap ∧ (∀ q ∈ strs9, ∃ sa, vk_R q.1 q.2.1 q.2.2 sa U) ∧ (∀ E ∈ excs9, va_Nw (.castable E E) U) ∧ (∀ E ∈ excs9, ∀ E' ∈ excs9, E ≠ E' → va_Nc E E' U)
def PM9 (z : Nat) (N : Nv9) (M : Mem9) (H : Heap) : Prop := match N with
  | (_, _, _, D, ca) => va_P D vwCl (WS9 z ca M) H
theorem EV9.go {z : Nat} {N : Nv9} {s U : State} {locs : List Loc} (h : EV9 z N s) (hW : s.WarmedH U.vm) (hS : va_S (A9 z) s.heap U.heap locs) : EV9 z N U := by
  obtain ⟨sb, L, xs, D, ca⟩ := N
  obtain ⟨h1, h2, h3, h4, h5, h6, h7, h8⟩ := h
  have hsb : sb < s.heap.size := by
    obtain ⟨scr, a1, -⟩ := h2
    exact (Array.getElem?_eq_some_iff.mp a1).1
  refine ⟨va_K.moved hW.alike h1, va_X.moved hW.alike (h2.kept (hS.2.1 sb hsb (Nat.not_le.mpr h3))), h3, vx_Zq.moved hW.alike (h4.kept hS.2.1), vx_Zq.moved hW.alike (h5.kept hS.2.1), fun q hq => ?_, fun E hE => va_Nw.warmC hW (h7 E hE), fun E hE E' hE' hne => va_Nc.moved hW.alike (h8 E hE E' hE' hne)⟩
  obtain ⟨sa, hsa⟩ := h6 q hq
  exact ⟨sa, vk_R.warm hW hsa⟩
theorem EV9.same {z : Nat} {N : Nv9} {s U : State} (h : EV9 z N s) (hv : U.vm = s.vm) (hh : U.heap = s.heap) : EV9 z N U :=
  h.go (locs := []) (by rw [hv]; exact State.WarmedH.refl s) (by rw [hh]; exact va_S.rf)
/-! ===== contracts ===== -/
def room9 (d c : Nat) : Room := { frames := d, cells := c, slots := 6 * c, locals := 32 * d }
def Pc9 (z : Nat) (N : Nv9) (av : List Value) (M : Mem9) : Array Value → State → Prop := va_Pc av (fun U => EV9 z N U ∧ PM9 z N M U.heap)
def Qc9 (z : Nat) (N : Nv9) (out : Out9 × Mem9) : Array Value → State → Outcome → State → Prop := fun _ st oc t => (∃ v, oc = .returned v ∧ out.1 = .inl v ∧ PM9 z N out.2 t.heap) ∧ va_F (A9 z) st t
def XC9 (z : Nat) (N : Nv9) (out : Out9 × Mem9) : String → State → State → Prop := fun E st t => (E ∈ excs9 ∧ out.1 = .inr E ∧ PM9 z N out.2 t.heap) ∧ va_F (A9 z) st t
def Sp9 (l : Launch) (z : Nat) (N : Nv9) (y : MethodName) (w0 : Cond) (d : Nat) (av : List Value) (M : Mem9) (c : Nat) (out : Out9 × Mem9) : Prop :=
  vx_Met l y (w0 :: gw9) (room9 d c) (Pc9 z N av M) (Qc9 z N out) (XC9 z N out) c (6 * c) (A9 z)
/-- what a call makes: an exception, or nothing -/
def co9 (o : Out9) : Nat := match o with
  | .inl _ => 0
  | .inr _ => 1
theorem Pc9_blind {z : Nat} {N : Nv9} {av : List Value} {M : Mem9} : FrameBlind (Pc9 z N av M) := by
  intro a U g mk h
  obtain ⟨h1, h2, h3⟩ := h
  exact ⟨h1, h2.same rfl rfl, h3⟩
/-! ===== the judgement of a place in a method: the rest of its text, run from here, answers as F does ===== -/
abbrev Cx9 : Type := Program × Launch × Env × Room × State × MethodId × Array Value × List Frame × Method × Code × (State → Prop)
def J9 (z : Nat) (N : Nv9) (X : Cx9) (out : Out9 × Mem9) (nL : Nat) (pc : Nat) (ls : List (Nat × Value)) (st : List Value) (M : Mem9) (κ : Nat) (F : Re9) : Prop := match X with
  | (p, l, e, R, s, m, args, below, meth, c, QQ) => F = some out → ∀ (H : Heap) (locs : List Loc) (lsA : Array Slot), PM9 z N M H → va_S (A9 z) s.heap H locs → lv_has lsA nL ls → W p l e R s m args below meth c H locs κ (6 * κ) QQ (F0 m pc lsA st)
def rt9 (rk : Nat) (v : Option Value) (i : Instr) : Prop := (rk = 0 ∧ v = none ∧ i = .return_) ∨ (rk = 1 ∧ (∃ x, v = some (.int x)) ∧ i = .ireturn) ∨ (rk = 2 ∧ (∃ x : Int32, b9 x ∧ v = some (.int x)) ∧ i = .ireturn) ∨ (rk = 3 ∧ (∃ x, v = some (.long x)) ∧ i = .lreturn)
/-- 'throw new E("text")' stands at pc -/
def TH9 (own : String) (cc : ByteArray) (pc : Nat) (E : String) : Prop := ∃ (ik is ic : Nat) (text : String), E ∈ excs9 ∧ (own, is, text) ∈ strs9 ∧ Cond.classLink own ik E ∈ gw9 ∧ Cond.initialized E ∈ gw9 ∧ (∀ w ∈ (vx_atS own ic E names9).filter goodWord, w ∈ gw9) ∧ (∀ w ∈ (vx_atS own ic E names9).filter (fun w => !goodWord w), w ∈ [Cond.castable E E]) ∧ Bundle.fit E = true ∧ (∀ w ∈ Cond.classLink own ik E :: Cond.initialized E :: vx_atS own ic E names9, vx_ot w = true) ∧ decode cc pc = .ok (.new ik, 3) ∧ decode cc (pc + 3) = .ok (.dup, 1) ∧
  ((decode cc (pc + 4) = .ok (.ldc is, 2) ∧ decode cc (pc + 6) = .ok (.invokespecial ic, 3) ∧ decode cc (pc + 9) = .ok (.athrow, 1)) ∨ (decode cc (pc + 4) = .ok (.ldc_w is, 3) ∧ decode cc (pc + 7) = .ok (.invokespecial ic, 3) ∧ decode cc (pc + 10) = .ok (.athrow, 1)))
def OK9 (z : Nat) (N : Nv9) (X : Cx9) (out : Out9 × Mem9) (nL : Nat) (cm : Nat) (cc : ByteArray) (own : String) (d rk : Nat) (hh : List (Nat × Nat × Nat × Nat)) : Prop := match X with
  | (p, l, e, R, s, m, args, below, meth, c, QQ) => p.tables.exec = Jvm.exec ∧ c.code = cc ∧ c.maxLocals = nL ∧ s.vm.findClass own = some m.cls ∧ (∀ w ∈ gw9, w.before args s = true) ∧ EV9 z N s ∧ (d ≤ R.frames ∧ 32 * d ≤ R.locals ∧ cm ≤ R.cells ∧ 6 * cm ≤ R.slots) ∧ l.stackTraces = false ∧ c.exceptionTable.toList = tableOf hh ∧
    (∀ (v : Option Value) (i : Instr) (pc : Nat) (M : Mem9) (κ : Nat) (H : Heap) (locs : List Loc) (lsA : Array Slot), rt9 rk v i → decode cc pc = .ok (i, 1) → out = (.inl v, M) → κ ≤ cm → PM9 z N M H → va_S (A9 z) s.heap H locs → W p l e R s m args below meth c H locs κ (6 * κ) QQ (F0 m pc lsA v.toList)) ∧
    (hh = [] → ∀ (E : String) (q : Addr) (ce : Cell) (pc : Nat) (M : Mem9) (κ : Nat) (H : Heap) (locs : List Loc) (lsA : Array Slot) (rest : List Value), E ∈ excs9 → out = (.inr E, M) → κ ≤ cm → H[q]? = some ce → ce.vm = .none → s.vm.findClass E = some ce.cls → PM9 z N M H → va_S (A9 z) s.heap H locs → vx_W p l e R s m args below meth c H locs κ (6 * κ) QQ (F0 m pc lsA rest) q) ∧
    (hh = [] → ∀ (E : String) (pc : Nat) (M : Mem9) (κ : Nat) (H : Heap) (locs : List Loc) (lsA : Array Slot) (rest : List Value), TH9 own cc pc E → lsA.size = nL → 6 ≤ d → (rest.map fun v => v.category).sum ≤ 8 → out = (.inr E, M) → κ + 1 ≤ cm → PM9 z N M H → va_S (A9 z) s.heap H locs → W p l e R s m args below meth c H locs κ (6 * κ) QQ (F0 m pc lsA rest))
end
section
/-! ===== the rules: an instruction, a row ===== -/
def lk9 (ls : List (Nat × Value)) (i : Nat) : Option Value := List.lookup i ls
theorem lk9_mem {ls : List (Nat × Value)} {i : Nat} {v : Value} (h : lk9 ls i = some v) : (i, v) ∈ ls := by
  unfold lk9 at h
  induction ls with
  | nil => cases h
  | cons q ls ih =>
    obtain ⟨j, w⟩ := q
    rw [List.lookup_cons] at h
    by_cases hj : i = j
    · subst hj
      rw [show (i == i) = true from beq_self_eq_true i] at h
      cases h
      exact List.mem_cons_self
    · rw [show (i == j) = false from by simpa using hj] at h
      exact List.mem_cons_of_mem _ (ih h)
theorem lk9_at {lsA : Array Slot} {nL : Nat} {ls : List (Nat × Value)} {i : Nat} {v : Value} (hl : lv_has lsA nL ls) (h : lk9 ls i = some v) : lsA[i]? = some (.val v) := hl.2.2 _ (lk9_mem h)
theorem lk9_ix {ls : List (Nat × Value)} {i : Nat} {v : Value} (h : lk9 ls i = some v) : ∃ k : Nat, ls[k]? = some (i, v) := List.getElem?_of_mem (lk9_mem h)
def lset9 (ls : List (Nat × Value)) (i : Nat) (v : Value) : List (Nat × Value) := (i, v) :: ls.filter (fun q => !(q.1 == i) && !(q.1 + 1 == i && q.2.category == 2))
def lsetL9 (ls : List (Nat × Value)) (i : Nat) (v : Value) : List (Nat × Value) := (i, v) :: ls.filter (fun q => !(q.1 == i) && (!(q.1 == i + 1) && !(q.1 + 1 == i && q.2.category == 2)))
theorem j_none {z : Nat} {N : Nv9} {X : Cx9} {out : Out9 × Mem9} {nL : Nat} {pc : Nat} {ls : List (Nat × Value)} {st : List Value} {M : Mem9} {κ : Nat} : J9 z N X out nL pc ls st M κ none := by
  obtain ⟨p, l, e, R, s, m, args, below, meth, c, QQ⟩ := X
  intro hF
  cases hF
theorem j_loc {z : Nat} {N : Nv9} {X : Cx9} {out : Out9 × Mem9} {nL : Nat} {pc : Nat} {ls ls' : List (Nat × Value)} {st : List Value} {M : Mem9} {κ : Nat} {F : Re9} (ks : List Nat) (hk : lv_pick ls ks = ls') (k : J9 z N X out nL pc ls' st M κ F) : J9 z N X out nL pc ls st M κ F := by
  obtain ⟨p, l, e, R, s, m, args, below, meth, c, QQ⟩ := X
  intro hF H locs lsA hP hS hl
  exact k hF H locs lsA hP hS (lv_sub hl ks hk)
theorem j_nm {α : Type} {z : Nat} {N : Nv9} {X : Cx9} {out : Out9 × Mem9} {nL : Nat} {pc : Nat} {ls : List (Nat × Value)} {st : List Value} {st' : α → List Value} {M : Mem9} {κ : Nat} {e : α} {K : α → Re9} (hst : st = st' e) (k : ∀ x, J9 z N X out nL pc ls (st' x) M κ (K x)) : J9 z N X out nL pc ls st M κ (nm9 e K) := by
  rw [hst]
  exact k e
theorem j_ite {z : Nat} {N : Nv9} {X : Cx9} {out : Out9 × Mem9} {nL : Nat} {pc : Nat} {ls : List (Nat × Value)} {st : List Value} {M : Mem9} {κ : Nat} {F1 F2 : Re9} {p : Prop} [Decidable p] (k1 : p → J9 z N X out nL pc ls st M κ F1) (k2 : ¬ p → J9 z N X out nL pc ls st M κ F2) : J9 z N X out nL pc ls st M κ (if p then F1 else F2) := by
  by_cases q : p
  · rw [if_pos q]
    exact k1 q
  · rw [if_neg q]
    exact k2 q
theorem j_eq {z : Nat} {N : Nv9} {X : Cx9} {out : Out9 × Mem9} {nL : Nat} {pc : Nat} {ls : List (Nat × Value)} {st st' : List Value} {M : Mem9} {κ : Nat} {F : Re9} (h : st = st') (k : J9 z N X out nL pc ls st' M κ F) : J9 z N X out nL pc ls st M κ F := by
  rw [h]
  exact k
theorem j_iconst {z : Nat} {N : Nv9} {X : Cx9} {out : Out9 × Mem9} {nL cm : Nat} {cc : ByteArray} {own : String} {d rk : Nat} {hh : List (Nat × Nat × Nat × Nat)} {pc : Nat} {ls : List (Nat × Value)} {st : List Value} {M : Mem9} {κ : Nat} {F : Re9} (C : OK9 z N X out nL cm cc own d rk hh) {n : Int} {v : Int32} (hd : decode cc pc = .ok (.iconst n, 1)) (hv : Int32.ofInt n = v) (k : J9 z N X out nL (pc + 1) (ls) (.int v :: st) M κ F) : J9 z N X out nL (pc) (ls) (st) M κ F := by
  obtain ⟨p, l, e, R, s, m, args, below, meth, c, QQ⟩ := X
  obtain ⟨hx, hb, hml, hown, hts, -⟩ := C
  intro hF H locs lsA hP hS hl
  exact lv_iconst hx hb hd hv (k hF H locs lsA hP hS hl)

theorem j_bipush {z : Nat} {N : Nv9} {X : Cx9} {out : Out9 × Mem9} {nL cm : Nat} {cc : ByteArray} {own : String} {d rk : Nat} {hh : List (Nat × Nat × Nat × Nat)} {pc : Nat} {ls : List (Nat × Value)} {st : List Value} {M : Mem9} {κ : Nat} {F : Re9} (C : OK9 z N X out nL cm cc own d rk hh) {n : Int} {v : Int32} (hd : decode cc pc = .ok (.bipush n, 2)) (hv : (Int8.ofInt n).toInt32 = v) (k : J9 z N X out nL (pc + 2) (ls) (.int v :: st) M κ F) : J9 z N X out nL (pc) (ls) (st) M κ F := by
  obtain ⟨p, l, e, R, s, m, args, below, meth, c, QQ⟩ := X
  obtain ⟨hx, hb, hml, hown, hts, -⟩ := C
  intro hF H locs lsA hP hS hl
  exact lv_bipush hx hb hd hv (k hF H locs lsA hP hS hl)

theorem j_sipush {z : Nat} {N : Nv9} {X : Cx9} {out : Out9 × Mem9} {nL cm : Nat} {cc : ByteArray} {own : String} {d rk : Nat} {hh : List (Nat × Nat × Nat × Nat)} {pc : Nat} {ls : List (Nat × Value)} {st : List Value} {M : Mem9} {κ : Nat} {F : Re9} (C : OK9 z N X out nL cm cc own d rk hh) {n : Int} {v : Int32} (hd : decode cc pc = .ok (.sipush n, 3)) (hv : (Int16.ofInt n).toInt32 = v) (k : J9 z N X out nL (pc + 3) (ls) (.int v :: st) M κ F) : J9 z N X out nL (pc) (ls) (st) M κ F := by
  obtain ⟨p, l, e, R, s, m, args, below, meth, c, QQ⟩ := X
  obtain ⟨hx, hb, hml, hown, hts, -⟩ := C
  intro hF H locs lsA hP hS hl
  exact lv_sipush hx hb hd hv (k hF H locs lsA hP hS hl)

theorem j_lconst {z : Nat} {N : Nv9} {X : Cx9} {out : Out9 × Mem9} {nL cm : Nat} {cc : ByteArray} {own : String} {d rk : Nat} {hh : List (Nat × Nat × Nat × Nat)} {pc : Nat} {ls : List (Nat × Value)} {st : List Value} {M : Mem9} {κ : Nat} {F : Re9} (C : OK9 z N X out nL cm cc own d rk hh) {n : Fin 2} {v : Int64} (hd : decode cc pc = .ok (.lconst n, 1)) (hv : Int64.ofNat (n : Nat) = v) (k : J9 z N X out nL (pc + 1) (ls) (.long v :: st) M κ F) : J9 z N X out nL (pc) (ls) (st) M κ F := by
  obtain ⟨p, l, e, R, s, m, args, below, meth, c, QQ⟩ := X
  obtain ⟨hx, hb, hml, hown, hts, -⟩ := C
  intro hF H locs lsA hP hS hl
  exact lv_lconst hx hb hd hv (k hF H locs lsA hP hS hl)

theorem j_iload_n {z : Nat} {N : Nv9} {X : Cx9} {out : Out9 × Mem9} {nL cm : Nat} {cc : ByteArray} {own : String} {d rk : Nat} {hh : List (Nat × Nat × Nat × Nat)} {pc : Nat} {ls : List (Nat × Value)} {st : List Value} {M : Mem9} {κ : Nat} {F : Re9} (C : OK9 z N X out nL cm cc own d rk hh) {k : Fin 4} {x : Int32} (hd : decode cc pc = .ok (.iload_n k, 1)) (hk : lk9 ls (k : Nat) = some (.int x)) (kk : J9 z N X out nL (pc + 1) (ls) (.int x :: st) M κ F) : J9 z N X out nL (pc) (ls) (st) M κ F := by
  obtain ⟨p, l, e, R, s, m, args, below, meth, c, QQ⟩ := X
  obtain ⟨hx, hb, hml, hown, hts, -⟩ := C
  intro hF H locs lsA hP hS hl
  exact lv_iload_n hx hb hd rfl (lk9_at hl hk) (kk hF H locs lsA hP hS hl)

theorem j_iload {z : Nat} {N : Nv9} {X : Cx9} {out : Out9 × Mem9} {nL cm : Nat} {cc : ByteArray} {own : String} {d rk : Nat} {hh : List (Nat × Nat × Nat × Nat)} {pc : Nat} {ls : List (Nat × Value)} {st : List Value} {M : Mem9} {κ : Nat} {F : Re9} (C : OK9 z N X out nL cm cc own d rk hh) {i : Nat} {x : Int32} (hd : decode cc pc = .ok (.iload i, 2)) (hk : lk9 ls i = some (.int x)) (k : J9 z N X out nL (pc + 2) (ls) (.int x :: st) M κ F) : J9 z N X out nL (pc) (ls) (st) M κ F := by
  obtain ⟨p, l, e, R, s, m, args, below, meth, c, QQ⟩ := X
  obtain ⟨hx, hb, hml, hown, hts, -⟩ := C
  intro hF H locs lsA hP hS hl
  exact lv_iload hx hb hd (lk9_at hl hk) (k hF H locs lsA hP hS hl)

theorem j_lload_n {z : Nat} {N : Nv9} {X : Cx9} {out : Out9 × Mem9} {nL cm : Nat} {cc : ByteArray} {own : String} {d rk : Nat} {hh : List (Nat × Nat × Nat × Nat)} {pc : Nat} {ls : List (Nat × Value)} {st : List Value} {M : Mem9} {κ : Nat} {F : Re9} (C : OK9 z N X out nL cm cc own d rk hh) {k : Fin 4} {x : Int64} (hd : decode cc pc = .ok (.lload_n k, 1)) (hk : lk9 ls (k : Nat) = some (.long x)) (kk : J9 z N X out nL (pc + 1) (ls) (.long x :: st) M κ F) : J9 z N X out nL (pc) (ls) (st) M κ F := by
  obtain ⟨p, l, e, R, s, m, args, below, meth, c, QQ⟩ := X
  obtain ⟨hx, hb, hml, hown, hts, -⟩ := C
  intro hF H locs lsA hP hS hl
  exact lv_lload_n hx hb hd rfl (lk9_at hl hk) (kk hF H locs lsA hP hS hl)

theorem j_lload {z : Nat} {N : Nv9} {X : Cx9} {out : Out9 × Mem9} {nL cm : Nat} {cc : ByteArray} {own : String} {d rk : Nat} {hh : List (Nat × Nat × Nat × Nat)} {pc : Nat} {ls : List (Nat × Value)} {st : List Value} {M : Mem9} {κ : Nat} {F : Re9} (C : OK9 z N X out nL cm cc own d rk hh) {i : Nat} {x : Int64} (hd : decode cc pc = .ok (.lload i, 2)) (hk : lk9 ls i = some (.long x)) (k : J9 z N X out nL (pc + 2) (ls) (.long x :: st) M κ F) : J9 z N X out nL (pc) (ls) (st) M κ F := by
  obtain ⟨p, l, e, R, s, m, args, below, meth, c, QQ⟩ := X
  obtain ⟨hx, hb, hml, hown, hts, -⟩ := C
  intro hF H locs lsA hP hS hl
  exact lv_lload hx hb hd (lk9_at hl hk) (k hF H locs lsA hP hS hl)

theorem j_aload_n {z : Nat} {N : Nv9} {X : Cx9} {out : Out9 × Mem9} {nL cm : Nat} {cc : ByteArray} {own : String} {d rk : Nat} {hh : List (Nat × Nat × Nat × Nat)} {pc : Nat} {ls : List (Nat × Value)} {st : List Value} {M : Mem9} {κ : Nat} {F : Re9} (C : OK9 z N X out nL cm cc own d rk hh) {k : Fin 4} {x : Nat} (hd : decode cc pc = .ok (.aload_n k, 1)) (hk : lk9 ls (k : Nat) = some (.ref x)) (kk : J9 z N X out nL (pc + 1) (ls) (.ref x :: st) M κ F) : J9 z N X out nL (pc) (ls) (st) M κ F := by
  obtain ⟨p, l, e, R, s, m, args, below, meth, c, QQ⟩ := X
  obtain ⟨hx, hb, hml, hown, hts, -⟩ := C
  intro hF H locs lsA hP hS hl
  exact lv_aload_n hx hb hd rfl (lk9_at hl hk) (kk hF H locs lsA hP hS hl)

theorem j_aload {z : Nat} {N : Nv9} {X : Cx9} {out : Out9 × Mem9} {nL cm : Nat} {cc : ByteArray} {own : String} {d rk : Nat} {hh : List (Nat × Nat × Nat × Nat)} {pc : Nat} {ls : List (Nat × Value)} {st : List Value} {M : Mem9} {κ : Nat} {F : Re9} (C : OK9 z N X out nL cm cc own d rk hh) {i : Nat} {x : Nat} (hd : decode cc pc = .ok (.aload i, 2)) (hk : lk9 ls i = some (.ref x)) (k : J9 z N X out nL (pc + 2) (ls) (.ref x :: st) M κ F) : J9 z N X out nL (pc) (ls) (st) M κ F := by
  obtain ⟨p, l, e, R, s, m, args, below, meth, c, QQ⟩ := X
  obtain ⟨hx, hb, hml, hown, hts, -⟩ := C
  intro hF H locs lsA hP hS hl
  exact lv_aload hx hb hd (lk9_at hl hk) (k hF H locs lsA hP hS hl)

theorem j_istore_n {z : Nat} {N : Nv9} {X : Cx9} {out : Out9 × Mem9} {nL cm : Nat} {cc : ByteArray} {own : String} {d rk : Nat} {hh : List (Nat × Nat × Nat × Nat)} {pc : Nat} {ls : List (Nat × Value)} {st : List Value} {M : Mem9} {κ : Nat} {F : Re9} (C : OK9 z N X out nL cm cc own d rk hh) {i : Fin 4} {x : Int32} {ls' : List (Nat × Value)} (hd : decode cc pc = .ok (.istore_n i, 1)) (hn : (i : Nat) < nL) (hs : lset9 ls i (.int x) = ls') (k : J9 z N X out nL (pc + 1) (ls') (st) M κ F) : J9 z N X out nL (pc) (ls) (.int x :: st) M κ F := by
  obtain ⟨p, l, e, R, s, m, args, below, meth, c, QQ⟩ := X
  obtain ⟨hx, hb, hml, hown, hts, -⟩ := C
  intro hF H locs lsA hP hS hl
  exact lv_istore_n hx hb hd rfl hl hn hs (fun ls2 hl2 => k hF H locs ls2 hP hS hl2)

theorem j_istore {z : Nat} {N : Nv9} {X : Cx9} {out : Out9 × Mem9} {nL cm : Nat} {cc : ByteArray} {own : String} {d rk : Nat} {hh : List (Nat × Nat × Nat × Nat)} {pc : Nat} {ls : List (Nat × Value)} {st : List Value} {M : Mem9} {κ : Nat} {F : Re9} (C : OK9 z N X out nL cm cc own d rk hh) {i : Nat} {x : Int32} {ls' : List (Nat × Value)} (hd : decode cc pc = .ok (.istore i, 2)) (hn : (i : Nat) < nL) (hs : lset9 ls i (.int x) = ls') (k : J9 z N X out nL (pc + 2) (ls') (st) M κ F) : J9 z N X out nL (pc) (ls) (.int x :: st) M κ F := by
  obtain ⟨p, l, e, R, s, m, args, below, meth, c, QQ⟩ := X
  obtain ⟨hx, hb, hml, hown, hts, -⟩ := C
  intro hF H locs lsA hP hS hl
  exact lv_istore hx hb hd hl hn hs (fun ls2 hl2 => k hF H locs ls2 hP hS hl2)

theorem j_lstore_n {z : Nat} {N : Nv9} {X : Cx9} {out : Out9 × Mem9} {nL cm : Nat} {cc : ByteArray} {own : String} {d rk : Nat} {hh : List (Nat × Nat × Nat × Nat)} {pc : Nat} {ls : List (Nat × Value)} {st : List Value} {M : Mem9} {κ : Nat} {F : Re9} (C : OK9 z N X out nL cm cc own d rk hh) {i : Fin 4} {x : Int64} {ls' : List (Nat × Value)} (hd : decode cc pc = .ok (.lstore_n i, 1)) (hn : (i : Nat) + 1 < nL) (hs : lsetL9 ls i (.long x) = ls') (k : J9 z N X out nL (pc + 1) (ls') (st) M κ F) : J9 z N X out nL (pc) (ls) (.long x :: st) M κ F := by
  obtain ⟨p, l, e, R, s, m, args, below, meth, c, QQ⟩ := X
  obtain ⟨hx, hb, hml, hown, hts, -⟩ := C
  intro hF H locs lsA hP hS hl
  exact lv_lstore_n hx hb hd rfl hl hn hs (fun ls2 hl2 => k hF H locs ls2 hP hS hl2)

theorem j_lstore {z : Nat} {N : Nv9} {X : Cx9} {out : Out9 × Mem9} {nL cm : Nat} {cc : ByteArray} {own : String} {d rk : Nat} {hh : List (Nat × Nat × Nat × Nat)} {pc : Nat} {ls : List (Nat × Value)} {st : List Value} {M : Mem9} {κ : Nat} {F : Re9} (C : OK9 z N X out nL cm cc own d rk hh) {i : Nat} {x : Int64} {ls' : List (Nat × Value)} (hd : decode cc pc = .ok (.lstore i, 2)) (hn : (i : Nat) + 1 < nL) (hs : lsetL9 ls i (.long x) = ls') (k : J9 z N X out nL (pc + 2) (ls') (st) M κ F) : J9 z N X out nL (pc) (ls) (.long x :: st) M κ F := by
  obtain ⟨p, l, e, R, s, m, args, below, meth, c, QQ⟩ := X
  obtain ⟨hx, hb, hml, hown, hts, -⟩ := C
  intro hF H locs lsA hP hS hl
  exact lv_lstore hx hb hd hl hn hs (fun ls2 hl2 => k hF H locs ls2 hP hS hl2)

theorem j_astore_n {z : Nat} {N : Nv9} {X : Cx9} {out : Out9 × Mem9} {nL cm : Nat} {cc : ByteArray} {own : String} {d rk : Nat} {hh : List (Nat × Nat × Nat × Nat)} {pc : Nat} {ls : List (Nat × Value)} {st : List Value} {M : Mem9} {κ : Nat} {F : Re9} (C : OK9 z N X out nL cm cc own d rk hh) {i : Fin 4} {x : Nat} {ls' : List (Nat × Value)} (hd : decode cc pc = .ok (.astore_n i, 1)) (hn : (i : Nat) < nL) (hs : lset9 ls i (.ref x) = ls') (k : J9 z N X out nL (pc + 1) (ls') (st) M κ F) : J9 z N X out nL (pc) (ls) (.ref x :: st) M κ F := by
  obtain ⟨p, l, e, R, s, m, args, below, meth, c, QQ⟩ := X
  obtain ⟨hx, hb, hml, hown, hts, -⟩ := C
  intro hF H locs lsA hP hS hl
  exact lv_astore_n hx hb hd rfl hl hn hs (fun ls2 hl2 => k hF H locs ls2 hP hS hl2)

theorem j_astore {z : Nat} {N : Nv9} {X : Cx9} {out : Out9 × Mem9} {nL cm : Nat} {cc : ByteArray} {own : String} {d rk : Nat} {hh : List (Nat × Nat × Nat × Nat)} {pc : Nat} {ls : List (Nat × Value)} {st : List Value} {M : Mem9} {κ : Nat} {F : Re9} (C : OK9 z N X out nL cm cc own d rk hh) {i : Nat} {x : Nat} {ls' : List (Nat × Value)} (hd : decode cc pc = .ok (.astore i, 2)) (hn : (i : Nat) < nL) (hs : lset9 ls i (.ref x) = ls') (k : J9 z N X out nL (pc + 2) (ls') (st) M κ F) : J9 z N X out nL (pc) (ls) (.ref x :: st) M κ F := by
  obtain ⟨p, l, e, R, s, m, args, below, meth, c, QQ⟩ := X
  obtain ⟨hx, hb, hml, hown, hts, -⟩ := C
  intro hF H locs lsA hP hS hl
  exact lv_astore hx hb hd hl hn hs (fun ls2 hl2 => k hF H locs ls2 hP hS hl2)

theorem j_iinc {z : Nat} {N : Nv9} {X : Cx9} {out : Out9 × Mem9} {nL cm : Nat} {cc : ByteArray} {own : String} {d rk : Nat} {hh : List (Nat × Nat × Nat × Nat)} {pc : Nat} {ls : List (Nat × Value)} {st : List Value} {M : Mem9} {κ : Nat} {F : Re9} (C : OK9 z N X out nL cm cc own d rk hh) {i : Nat} {n : Int} {x v : Int32} {ls' : List (Nat × Value)} (hd : decode cc pc = .ok (.iinc i n, 3)) (hk : lk9 ls i = some (.int x)) (hv : x + Int32.ofInt n = v) (hn : i < nL) (hs : lset9 ls i (.int v) = ls') (k : J9 z N X out nL (pc + 3) (ls') (st) M κ F) : J9 z N X out nL (pc) (ls) (st) M κ F := by
  obtain ⟨p, l, e, R, s, m, args, below, meth, c, QQ⟩ := X
  obtain ⟨hx, hb, hml, hown, hts, -⟩ := C
  intro hF H locs lsA hP hS hl
  obtain ⟨j, hj⟩ := lk9_ix hk
  exact lv_iinc hx hb hd hl hj hv hn hs (fun ls2 hl2 => k hF H locs ls2 hP hS hl2)

theorem j_iadd {z : Nat} {N : Nv9} {X : Cx9} {out : Out9 × Mem9} {nL cm : Nat} {cc : ByteArray} {own : String} {d rk : Nat} {hh : List (Nat × Nat × Nat × Nat)} {pc : Nat} {ls : List (Nat × Value)} {st : List Value} {M : Mem9} {κ : Nat} {F : Re9} (C : OK9 z N X out nL cm cc own d rk hh) {x y : Int32} (hd : decode cc pc = .ok (.iadd, 1))  (k : J9 z N X out nL (pc + 1) (ls) (.int (x + y) :: st) M κ F) : J9 z N X out nL (pc) (ls) (.int y :: .int x :: st) M κ F := by
  obtain ⟨p, l, e, R, s, m, args, below, meth, c, QQ⟩ := X
  obtain ⟨hx, hb, hml, hown, hts, -⟩ := C
  intro hF H locs lsA hP hS hl
  exact lv_iadd hx hb hd  (k hF H locs lsA hP hS hl)

theorem j_isub {z : Nat} {N : Nv9} {X : Cx9} {out : Out9 × Mem9} {nL cm : Nat} {cc : ByteArray} {own : String} {d rk : Nat} {hh : List (Nat × Nat × Nat × Nat)} {pc : Nat} {ls : List (Nat × Value)} {st : List Value} {M : Mem9} {κ : Nat} {F : Re9} (C : OK9 z N X out nL cm cc own d rk hh) {x y : Int32} (hd : decode cc pc = .ok (.isub, 1))  (k : J9 z N X out nL (pc + 1) (ls) (.int (x - y) :: st) M κ F) : J9 z N X out nL (pc) (ls) (.int y :: .int x :: st) M κ F := by
  obtain ⟨p, l, e, R, s, m, args, below, meth, c, QQ⟩ := X
  obtain ⟨hx, hb, hml, hown, hts, -⟩ := C
  intro hF H locs lsA hP hS hl
  exact lv_isub hx hb hd  (k hF H locs lsA hP hS hl)

theorem j_imul {z : Nat} {N : Nv9} {X : Cx9} {out : Out9 × Mem9} {nL cm : Nat} {cc : ByteArray} {own : String} {d rk : Nat} {hh : List (Nat × Nat × Nat × Nat)} {pc : Nat} {ls : List (Nat × Value)} {st : List Value} {M : Mem9} {κ : Nat} {F : Re9} (C : OK9 z N X out nL cm cc own d rk hh) {x y : Int32} (hd : decode cc pc = .ok (.imul, 1))  (k : J9 z N X out nL (pc + 1) (ls) (.int (x * y) :: st) M κ F) : J9 z N X out nL (pc) (ls) (.int y :: .int x :: st) M κ F := by
  obtain ⟨p, l, e, R, s, m, args, below, meth, c, QQ⟩ := X
  obtain ⟨hx, hb, hml, hown, hts, -⟩ := C
  intro hF H locs lsA hP hS hl
  exact lv_imul hx hb hd  (k hF H locs lsA hP hS hl)

theorem j_iand {z : Nat} {N : Nv9} {X : Cx9} {out : Out9 × Mem9} {nL cm : Nat} {cc : ByteArray} {own : String} {d rk : Nat} {hh : List (Nat × Nat × Nat × Nat)} {pc : Nat} {ls : List (Nat × Value)} {st : List Value} {M : Mem9} {κ : Nat} {F : Re9} (C : OK9 z N X out nL cm cc own d rk hh) {x y : Int32} (hd : decode cc pc = .ok (.iand, 1))  (k : J9 z N X out nL (pc + 1) (ls) (.int (x &&& y) :: st) M κ F) : J9 z N X out nL (pc) (ls) (.int y :: .int x :: st) M κ F := by
  obtain ⟨p, l, e, R, s, m, args, below, meth, c, QQ⟩ := X
  obtain ⟨hx, hb, hml, hown, hts, -⟩ := C
  intro hF H locs lsA hP hS hl
  exact lv_iand hx hb hd  (k hF H locs lsA hP hS hl)

theorem j_ladd {z : Nat} {N : Nv9} {X : Cx9} {out : Out9 × Mem9} {nL cm : Nat} {cc : ByteArray} {own : String} {d rk : Nat} {hh : List (Nat × Nat × Nat × Nat)} {pc : Nat} {ls : List (Nat × Value)} {st : List Value} {M : Mem9} {κ : Nat} {F : Re9} (C : OK9 z N X out nL cm cc own d rk hh) {x y : Int64} (hd : decode cc pc = .ok (.ladd, 1))  (k : J9 z N X out nL (pc + 1) (ls) (.long (x + y) :: st) M κ F) : J9 z N X out nL (pc) (ls) (.long y :: .long x :: st) M κ F := by
  obtain ⟨p, l, e, R, s, m, args, below, meth, c, QQ⟩ := X
  obtain ⟨hx, hb, hml, hown, hts, -⟩ := C
  intro hF H locs lsA hP hS hl
  exact lv_ladd hx hb hd  (k hF H locs lsA hP hS hl)

theorem j_lsub {z : Nat} {N : Nv9} {X : Cx9} {out : Out9 × Mem9} {nL cm : Nat} {cc : ByteArray} {own : String} {d rk : Nat} {hh : List (Nat × Nat × Nat × Nat)} {pc : Nat} {ls : List (Nat × Value)} {st : List Value} {M : Mem9} {κ : Nat} {F : Re9} (C : OK9 z N X out nL cm cc own d rk hh) {x y : Int64} (hd : decode cc pc = .ok (.lsub, 1))  (k : J9 z N X out nL (pc + 1) (ls) (.long (x - y) :: st) M κ F) : J9 z N X out nL (pc) (ls) (.long y :: .long x :: st) M κ F := by
  obtain ⟨p, l, e, R, s, m, args, below, meth, c, QQ⟩ := X
  obtain ⟨hx, hb, hml, hown, hts, -⟩ := C
  intro hF H locs lsA hP hS hl
  exact lv_lsub hx hb hd  (k hF H locs lsA hP hS hl)

theorem j_lmul {z : Nat} {N : Nv9} {X : Cx9} {out : Out9 × Mem9} {nL cm : Nat} {cc : ByteArray} {own : String} {d rk : Nat} {hh : List (Nat × Nat × Nat × Nat)} {pc : Nat} {ls : List (Nat × Value)} {st : List Value} {M : Mem9} {κ : Nat} {F : Re9} (C : OK9 z N X out nL cm cc own d rk hh) {x y : Int64} (hd : decode cc pc = .ok (.lmul, 1))  (k : J9 z N X out nL (pc + 1) (ls) (.long (x * y) :: st) M κ F) : J9 z N X out nL (pc) (ls) (.long y :: .long x :: st) M κ F := by
  obtain ⟨p, l, e, R, s, m, args, below, meth, c, QQ⟩ := X
  obtain ⟨hx, hb, hml, hown, hts, -⟩ := C
  intro hF H locs lsA hP hS hl
  exact lv_lmul hx hb hd  (k hF H locs lsA hP hS hl)

theorem j_land {z : Nat} {N : Nv9} {X : Cx9} {out : Out9 × Mem9} {nL cm : Nat} {cc : ByteArray} {own : String} {d rk : Nat} {hh : List (Nat × Nat × Nat × Nat)} {pc : Nat} {ls : List (Nat × Value)} {st : List Value} {M : Mem9} {κ : Nat} {F : Re9} (C : OK9 z N X out nL cm cc own d rk hh) {x y : Int64} (hd : decode cc pc = .ok (.land, 1))  (k : J9 z N X out nL (pc + 1) (ls) (.long (x &&& y) :: st) M κ F) : J9 z N X out nL (pc) (ls) (.long y :: .long x :: st) M κ F := by
  obtain ⟨p, l, e, R, s, m, args, below, meth, c, QQ⟩ := X
  obtain ⟨hx, hb, hml, hown, hts, -⟩ := C
  intro hF H locs lsA hP hS hl
  exact lv_land hx hb hd  (k hF H locs lsA hP hS hl)

theorem j_lor {z : Nat} {N : Nv9} {X : Cx9} {out : Out9 × Mem9} {nL cm : Nat} {cc : ByteArray} {own : String} {d rk : Nat} {hh : List (Nat × Nat × Nat × Nat)} {pc : Nat} {ls : List (Nat × Value)} {st : List Value} {M : Mem9} {κ : Nat} {F : Re9} (C : OK9 z N X out nL cm cc own d rk hh) {x y : Int64} (hd : decode cc pc = .ok (.lor, 1))  (k : J9 z N X out nL (pc + 1) (ls) (.long (x ||| y) :: st) M κ F) : J9 z N X out nL (pc) (ls) (.long y :: .long x :: st) M κ F := by
  obtain ⟨p, l, e, R, s, m, args, below, meth, c, QQ⟩ := X
  obtain ⟨hx, hb, hml, hown, hts, -⟩ := C
  intro hF H locs lsA hP hS hl
  exact lv_lor hx hb hd  (k hF H locs lsA hP hS hl)

theorem j_lshl {z : Nat} {N : Nv9} {X : Cx9} {out : Out9 × Mem9} {nL cm : Nat} {cc : ByteArray} {own : String} {d rk : Nat} {hh : List (Nat × Nat × Nat × Nat)} {pc : Nat} {ls : List (Nat × Value)} {st : List Value} {M : Mem9} {κ : Nat} {F : Re9} (C : OK9 z N X out nL cm cc own d rk hh) {x v : Int64} {y : Int32} (hd : decode cc pc = .ok (.lshl, 1)) (hv : x <<< (y.toInt64 &&& 63) = v) (k : J9 z N X out nL (pc + 1) (ls) (.long v :: st) M κ F) : J9 z N X out nL (pc) (ls) (.int y :: .long x :: st) M κ F := by
  obtain ⟨p, l, e, R, s, m, args, below, meth, c, QQ⟩ := X
  obtain ⟨hx, hb, hml, hown, hts, -⟩ := C
  intro hF H locs lsA hP hS hl
  exact lv_lshl hx hb hd hv (k hF H locs lsA hP hS hl)

theorem j_lushr {z : Nat} {N : Nv9} {X : Cx9} {out : Out9 × Mem9} {nL cm : Nat} {cc : ByteArray} {own : String} {d rk : Nat} {hh : List (Nat × Nat × Nat × Nat)} {pc : Nat} {ls : List (Nat × Value)} {st : List Value} {M : Mem9} {κ : Nat} {F : Re9} (C : OK9 z N X out nL cm cc own d rk hh) {x v : Int64} {y : Int32} (hd : decode cc pc = .ok (.lushr, 1)) (hv : (x.toUInt64 >>> (y.toInt64.toUInt64 &&& Int64.toUInt64 63)).toInt64 = v) (k : J9 z N X out nL (pc + 1) (ls) (.long v :: st) M κ F) : J9 z N X out nL (pc) (ls) (.int y :: .long x :: st) M κ F := by
  obtain ⟨p, l, e, R, s, m, args, below, meth, c, QQ⟩ := X
  obtain ⟨hx, hb, hml, hown, hts, -⟩ := C
  intro hF H locs lsA hP hS hl
  exact lv_lushr hx hb hd hv (k hF H locs lsA hP hS hl)

theorem j_i2l {z : Nat} {N : Nv9} {X : Cx9} {out : Out9 × Mem9} {nL cm : Nat} {cc : ByteArray} {own : String} {d rk : Nat} {hh : List (Nat × Nat × Nat × Nat)} {pc : Nat} {ls : List (Nat × Value)} {st : List Value} {M : Mem9} {κ : Nat} {F : Re9} (C : OK9 z N X out nL cm cc own d rk hh) {x : Int32} (hd : decode cc pc = .ok (.i2l, 1))  (k : J9 z N X out nL (pc + 1) (ls) (.long x.toInt64 :: st) M κ F) : J9 z N X out nL (pc) (ls) (.int x :: st) M κ F := by
  obtain ⟨p, l, e, R, s, m, args, below, meth, c, QQ⟩ := X
  obtain ⟨hx, hb, hml, hown, hts, -⟩ := C
  intro hF H locs lsA hP hS hl
  exact lv_i2l hx hb hd rfl (k hF H locs lsA hP hS hl)

theorem j_l2i {z : Nat} {N : Nv9} {X : Cx9} {out : Out9 × Mem9} {nL cm : Nat} {cc : ByteArray} {own : String} {d rk : Nat} {hh : List (Nat × Nat × Nat × Nat)} {pc : Nat} {ls : List (Nat × Value)} {st : List Value} {M : Mem9} {κ : Nat} {F : Re9} (C : OK9 z N X out nL cm cc own d rk hh) {x : Int64} (hd : decode cc pc = .ok (.l2i, 1))  (k : J9 z N X out nL (pc + 1) (ls) (.int x.toInt32 :: st) M κ F) : J9 z N X out nL (pc) (ls) (.long x :: st) M κ F := by
  obtain ⟨p, l, e, R, s, m, args, below, meth, c, QQ⟩ := X
  obtain ⟨hx, hb, hml, hown, hts, -⟩ := C
  intro hF H locs lsA hP hS hl
  exact lv_l2i hx hb hd rfl (k hF H locs lsA hP hS hl)

theorem j_i2c {z : Nat} {N : Nv9} {X : Cx9} {out : Out9 × Mem9} {nL cm : Nat} {cc : ByteArray} {own : String} {d rk : Nat} {hh : List (Nat × Nat × Nat × Nat)} {pc : Nat} {ls : List (Nat × Value)} {st : List Value} {M : Mem9} {κ : Nat} {F : Re9} (C : OK9 z N X out nL cm cc own d rk hh) {x : Int32} (hd : decode cc pc = .ok (.i2c, 1))  (k : J9 z N X out nL (pc + 1) (ls) (.int (x.toUInt32 % 65536).toInt32 :: st) M κ F) : J9 z N X out nL (pc) (ls) (.int x :: st) M κ F := by
  obtain ⟨p, l, e, R, s, m, args, below, meth, c, QQ⟩ := X
  obtain ⟨hx, hb, hml, hown, hts, -⟩ := C
  intro hF H locs lsA hP hS hl
  exact lv_i2c hx hb hd rfl (k hF H locs lsA hP hS hl)

theorem j_dup {z : Nat} {N : Nv9} {X : Cx9} {out : Out9 × Mem9} {nL cm : Nat} {cc : ByteArray} {own : String} {d rk : Nat} {hh : List (Nat × Nat × Nat × Nat)} {pc : Nat} {ls : List (Nat × Value)} {st : List Value} {M : Mem9} {κ : Nat} {F : Re9} (C : OK9 z N X out nL cm cc own d rk hh) {va : Value} (hd : decode cc pc = .ok (.dup, 1)) (hva : va.category = 1) (k : J9 z N X out nL (pc + 1) (ls) (va :: va :: st) M κ F) : J9 z N X out nL (pc) (ls) (va :: st) M κ F := by
  obtain ⟨p, l, e, R, s, m, args, below, meth, c, QQ⟩ := X
  obtain ⟨hx, hb, hml, hown, hts, -⟩ := C
  intro hF H locs lsA hP hS hl
  exact lv_dup hx hb hd hva (k hF H locs lsA hP hS hl)

theorem j_pop {z : Nat} {N : Nv9} {X : Cx9} {out : Out9 × Mem9} {nL cm : Nat} {cc : ByteArray} {own : String} {d rk : Nat} {hh : List (Nat × Nat × Nat × Nat)} {pc : Nat} {ls : List (Nat × Value)} {st : List Value} {M : Mem9} {κ : Nat} {F : Re9} (C : OK9 z N X out nL cm cc own d rk hh) {va : Value} (hd : decode cc pc = .ok (.pop, 1)) (hva : va.category = 1) (k : J9 z N X out nL (pc + 1) (ls) (st) M κ F) : J9 z N X out nL (pc) (ls) (va :: st) M κ F := by
  obtain ⟨p, l, e, R, s, m, args, below, meth, c, QQ⟩ := X
  obtain ⟨hx, hb, hml, hown, hts, -⟩ := C
  intro hF H locs lsA hP hS hl
  exact lv_pop hx hb hd hva (k hF H locs lsA hP hS hl)

theorem j_dup2_11 {z : Nat} {N : Nv9} {X : Cx9} {out : Out9 × Mem9} {nL cm : Nat} {cc : ByteArray} {own : String} {d rk : Nat} {hh : List (Nat × Nat × Nat × Nat)} {pc : Nat} {ls : List (Nat × Value)} {st : List Value} {M : Mem9} {κ : Nat} {F : Re9} (C : OK9 z N X out nL cm cc own d rk hh) {va vb : Value} (hd : decode cc pc = .ok (.dup2, 1)) (hva : va.category = 1) (hvb : vb.category = 1) (k : J9 z N X out nL (pc + 1) (ls) (va :: vb :: va :: vb :: st) M κ F) : J9 z N X out nL (pc) (ls) (va :: vb :: st) M κ F := by
  obtain ⟨p, l, e, R, s, m, args, below, meth, c, QQ⟩ := X
  obtain ⟨hx, hb, hml, hown, hts, -⟩ := C
  intro hF H locs lsA hP hS hl
  exact lv_dup2_11 hx hb hd hva hvb (k hF H locs lsA hP hS hl)

theorem j_lcmp {z : Nat} {N : Nv9} {X : Cx9} {out : Out9 × Mem9} {nL cm : Nat} {cc : ByteArray} {own : String} {d rk : Nat} {hh : List (Nat × Nat × Nat × Nat)} {pc : Nat} {ls : List (Nat × Value)} {st : List Value} {M : Mem9} {κ : Nat} {F : Re9} (C : OK9 z N X out nL cm cc own d rk hh) {x y : Int64} (hd : decode cc pc = .ok (.lcmp, 1)) (k : J9 z N X out nL (pc + 1) (ls) (.int (lg_cmp x y) :: st) M κ F) : J9 z N X out nL (pc) (ls) (.long y :: .long x :: st) M κ F := by
  obtain ⟨p, l, e, R, s, m, args, below, meth, c, QQ⟩ := X
  obtain ⟨hx, hb, hml, hown, hts, -⟩ := C
  intro hF H locs lsA hP hS hl
  exact W.lcmp hx hb hd (k hF H locs lsA hP hS hl)

theorem j_idiv {z : Nat} {N : Nv9} {X : Cx9} {out : Out9 × Mem9} {nL cm : Nat} {cc : ByteArray} {own : String} {d rk : Nat} {hh : List (Nat × Nat × Nat × Nat)} {pc : Nat} {ls : List (Nat × Value)} {st : List Value} {M : Mem9} {κ : Nat} {F : Re9} (C : OK9 z N X out nL cm cc own d rk hh) {x y : Int32} {K : Int32 → Re9} (hd : decode cc pc = .ok (.idiv, 1)) (k : ∀ v, J9 z N X out nL (pc + 1) (ls) (.int v :: st) M κ (K v)) : J9 z N X out nL (pc) (ls) (.int y :: .int x :: st) M κ ((dv9 x y).bind K) := by
  obtain ⟨p, l, e, R, s, m, args, below, meth, c, QQ⟩ := X
  obtain ⟨hx, hb, hml, hown, hts, -⟩ := C
  intro hF H locs lsA hP hS hl
  unfold dv9 at hF
  by_cases h0 : y = 0
  · rw [if_pos h0] at hF
    cases hF
  · rw [if_neg h0] at hF
    exact lv_idiv hx hb hd h0 (k _ hF H locs lsA hP hS hl)

theorem j_irem {z : Nat} {N : Nv9} {X : Cx9} {out : Out9 × Mem9} {nL cm : Nat} {cc : ByteArray} {own : String} {d rk : Nat} {hh : List (Nat × Nat × Nat × Nat)} {pc : Nat} {ls : List (Nat × Value)} {st : List Value} {M : Mem9} {κ : Nat} {F : Re9} (C : OK9 z N X out nL cm cc own d rk hh) {x y : Int32} {K : Int32 → Re9} (hd : decode cc pc = .ok (.irem, 1)) (k : ∀ v, J9 z N X out nL (pc + 1) (ls) (.int v :: st) M κ (K v)) : J9 z N X out nL (pc) (ls) (.int y :: .int x :: st) M κ ((rm9 x y).bind K) := by
  obtain ⟨p, l, e, R, s, m, args, below, meth, c, QQ⟩ := X
  obtain ⟨hx, hb, hml, hown, hts, -⟩ := C
  intro hF H locs lsA hP hS hl
  unfold rm9 at hF
  by_cases h0 : y = 0
  · rw [if_pos h0] at hF
    cases hF
  · rw [if_neg h0] at hF
    exact lv_irem hx hb hd h0 (k _ hF H locs lsA hP hS hl)

theorem j_ldiv {z : Nat} {N : Nv9} {X : Cx9} {out : Out9 × Mem9} {nL cm : Nat} {cc : ByteArray} {own : String} {d rk : Nat} {hh : List (Nat × Nat × Nat × Nat)} {pc : Nat} {ls : List (Nat × Value)} {st : List Value} {M : Mem9} {κ : Nat} {F : Re9} (C : OK9 z N X out nL cm cc own d rk hh) {x y : Int64} {K : Int64 → Re9} (hd : decode cc pc = .ok (.ldiv, 1)) (k : ∀ v, J9 z N X out nL (pc + 1) (ls) (.long v :: st) M κ (K v)) : J9 z N X out nL (pc) (ls) (.long y :: .long x :: st) M κ ((dl9 x y).bind K) := by
  obtain ⟨p, l, e, R, s, m, args, below, meth, c, QQ⟩ := X
  obtain ⟨hx, hb, hml, hown, hts, -⟩ := C
  intro hF H locs lsA hP hS hl
  unfold dl9 at hF
  by_cases h0 : y = 0
  · rw [if_pos h0] at hF
    cases hF
  · rw [if_neg h0] at hF
    exact lv_ldiv hx hb hd h0 (k _ hF H locs lsA hP hS hl)

theorem j_lrem {z : Nat} {N : Nv9} {X : Cx9} {out : Out9 × Mem9} {nL cm : Nat} {cc : ByteArray} {own : String} {d rk : Nat} {hh : List (Nat × Nat × Nat × Nat)} {pc : Nat} {ls : List (Nat × Value)} {st : List Value} {M : Mem9} {κ : Nat} {F : Re9} (C : OK9 z N X out nL cm cc own d rk hh) {x y : Int64} {K : Int64 → Re9} (hd : decode cc pc = .ok (.lrem, 1)) (k : ∀ v, J9 z N X out nL (pc + 1) (ls) (.long v :: st) M κ (K v)) : J9 z N X out nL (pc) (ls) (.long y :: .long x :: st) M κ ((rl9 x y).bind K) := by
  obtain ⟨p, l, e, R, s, m, args, below, meth, c, QQ⟩ := X
  obtain ⟨hx, hb, hml, hown, hts, -⟩ := C
  intro hF H locs lsA hP hS hl
  unfold rl9 at hF
  by_cases h0 : y = 0
  · rw [if_pos h0] at hF
    cases hF
  · rw [if_neg h0] at hF
    exact lv_lrem hx hb hd h0 (k _ hF H locs lsA hP hS hl)

theorem j_if_eq {z : Nat} {N : Nv9} {X : Cx9} {out : Out9 × Mem9} {nL cm : Nat} {cc : ByteArray} {own : String} {d rk : Nat} {hh : List (Nat × Nat × Nat × Nat)} {pc : Nat} {ls : List (Nat × Value)} {st : List Value} {M : Mem9} {κ : Nat} {F : Re9} (C : OK9 z N X out nL cm cc own d rk hh) {x : Int32} {F1 F2 : Re9} {off : Int} {tgt : Nat} (hd : decode cc pc = .ok (.ifCond .eq off, 3)) (ht : (pc : Int) + off = (tgt : Int)) (k1 : x = 0 → J9 z N X out nL (tgt) (ls) (st) M κ F1) (k2 : ¬ (x = 0) → J9 z N X out nL (pc + 3) (ls) (st) M κ F2) : J9 z N X out nL (pc) (ls) (.int x :: st) M κ (if x = 0 then F1 else F2) := by
  obtain ⟨p, l, e, R, s, m, args, below, meth, c, QQ⟩ := X
  obtain ⟨hx, hb, hml, hown, hts, -⟩ := C
  intro hF H locs lsA hP hS hl
  refine lv_if_eq hx hb hd ht (fun q => ?_) (fun q => ?_)
  · rw [if_pos q] at hF
    exact k1 q hF H locs lsA hP hS hl
  · rw [if_neg q] at hF
    exact k2 q hF H locs lsA hP hS hl

theorem j_if_ne {z : Nat} {N : Nv9} {X : Cx9} {out : Out9 × Mem9} {nL cm : Nat} {cc : ByteArray} {own : String} {d rk : Nat} {hh : List (Nat × Nat × Nat × Nat)} {pc : Nat} {ls : List (Nat × Value)} {st : List Value} {M : Mem9} {κ : Nat} {F : Re9} (C : OK9 z N X out nL cm cc own d rk hh) {x : Int32} {F1 F2 : Re9} {off : Int} {tgt : Nat} (hd : decode cc pc = .ok (.ifCond .ne off, 3)) (ht : (pc : Int) + off = (tgt : Int)) (k1 : ¬ x = 0 → J9 z N X out nL (tgt) (ls) (st) M κ F1) (k2 : x = 0 → J9 z N X out nL (pc + 3) (ls) (st) M κ F2) : J9 z N X out nL (pc) (ls) (.int x :: st) M κ (if x = 0 then F2 else F1) := by
  obtain ⟨p, l, e, R, s, m, args, below, meth, c, QQ⟩ := X
  obtain ⟨hx, hb, hml, hown, hts, -⟩ := C
  intro hF H locs lsA hP hS hl
  refine lv_if_ne hx hb hd ht (fun q => ?_) (fun q => ?_)
  · rw [if_neg q] at hF
    exact k1 q hF H locs lsA hP hS hl
  · rw [if_pos q] at hF
    exact k2 q hF H locs lsA hP hS hl

theorem j_if_lt {z : Nat} {N : Nv9} {X : Cx9} {out : Out9 × Mem9} {nL cm : Nat} {cc : ByteArray} {own : String} {d rk : Nat} {hh : List (Nat × Nat × Nat × Nat)} {pc : Nat} {ls : List (Nat × Value)} {st : List Value} {M : Mem9} {κ : Nat} {F : Re9} (C : OK9 z N X out nL cm cc own d rk hh) {x : Int32} {F1 F2 : Re9} {off : Int} {tgt : Nat} (hd : decode cc pc = .ok (.ifCond .lt off, 3)) (ht : (pc : Int) + off = (tgt : Int)) (k1 : x < 0 → J9 z N X out nL (tgt) (ls) (st) M κ F1) (k2 : ¬ (x < 0) → J9 z N X out nL (pc + 3) (ls) (st) M κ F2) : J9 z N X out nL (pc) (ls) (.int x :: st) M κ (if x < 0 then F1 else F2) := by
  obtain ⟨p, l, e, R, s, m, args, below, meth, c, QQ⟩ := X
  obtain ⟨hx, hb, hml, hown, hts, -⟩ := C
  intro hF H locs lsA hP hS hl
  refine lv_if_lt hx hb hd ht (fun q => ?_) (fun q => ?_)
  · rw [if_pos q] at hF
    exact k1 q hF H locs lsA hP hS hl
  · rw [if_neg q] at hF
    exact k2 q hF H locs lsA hP hS hl

theorem j_if_ge {z : Nat} {N : Nv9} {X : Cx9} {out : Out9 × Mem9} {nL cm : Nat} {cc : ByteArray} {own : String} {d rk : Nat} {hh : List (Nat × Nat × Nat × Nat)} {pc : Nat} {ls : List (Nat × Value)} {st : List Value} {M : Mem9} {κ : Nat} {F : Re9} (C : OK9 z N X out nL cm cc own d rk hh) {x : Int32} {F1 F2 : Re9} {off : Int} {tgt : Nat} (hd : decode cc pc = .ok (.ifCond .ge off, 3)) (ht : (pc : Int) + off = (tgt : Int)) (k1 : 0 ≤ x → J9 z N X out nL (tgt) (ls) (st) M κ F1) (k2 : ¬ (0 ≤ x) → J9 z N X out nL (pc + 3) (ls) (st) M κ F2) : J9 z N X out nL (pc) (ls) (.int x :: st) M κ (if 0 ≤ x then F1 else F2) := by
  obtain ⟨p, l, e, R, s, m, args, below, meth, c, QQ⟩ := X
  obtain ⟨hx, hb, hml, hown, hts, -⟩ := C
  intro hF H locs lsA hP hS hl
  refine lv_if_ge hx hb hd ht (fun q => ?_) (fun q => ?_)
  · rw [if_pos q] at hF
    exact k1 q hF H locs lsA hP hS hl
  · rw [if_neg q] at hF
    exact k2 q hF H locs lsA hP hS hl

theorem j_if_gt {z : Nat} {N : Nv9} {X : Cx9} {out : Out9 × Mem9} {nL cm : Nat} {cc : ByteArray} {own : String} {d rk : Nat} {hh : List (Nat × Nat × Nat × Nat)} {pc : Nat} {ls : List (Nat × Value)} {st : List Value} {M : Mem9} {κ : Nat} {F : Re9} (C : OK9 z N X out nL cm cc own d rk hh) {x : Int32} {F1 F2 : Re9} {off : Int} {tgt : Nat} (hd : decode cc pc = .ok (.ifCond .gt off, 3)) (ht : (pc : Int) + off = (tgt : Int)) (k1 : 0 < x → J9 z N X out nL (tgt) (ls) (st) M κ F1) (k2 : ¬ (0 < x) → J9 z N X out nL (pc + 3) (ls) (st) M κ F2) : J9 z N X out nL (pc) (ls) (.int x :: st) M κ (if 0 < x then F1 else F2) := by
  obtain ⟨p, l, e, R, s, m, args, below, meth, c, QQ⟩ := X
  obtain ⟨hx, hb, hml, hown, hts, -⟩ := C
  intro hF H locs lsA hP hS hl
  refine lv_if_gt hx hb hd ht (fun q => ?_) (fun q => ?_)
  · rw [if_pos q] at hF
    exact k1 q hF H locs lsA hP hS hl
  · rw [if_neg q] at hF
    exact k2 q hF H locs lsA hP hS hl

theorem j_if_le {z : Nat} {N : Nv9} {X : Cx9} {out : Out9 × Mem9} {nL cm : Nat} {cc : ByteArray} {own : String} {d rk : Nat} {hh : List (Nat × Nat × Nat × Nat)} {pc : Nat} {ls : List (Nat × Value)} {st : List Value} {M : Mem9} {κ : Nat} {F : Re9} (C : OK9 z N X out nL cm cc own d rk hh) {x : Int32} {F1 F2 : Re9} {off : Int} {tgt : Nat} (hd : decode cc pc = .ok (.ifCond .le off, 3)) (ht : (pc : Int) + off = (tgt : Int)) (k1 : x ≤ 0 → J9 z N X out nL (tgt) (ls) (st) M κ F1) (k2 : ¬ (x ≤ 0) → J9 z N X out nL (pc + 3) (ls) (st) M κ F2) : J9 z N X out nL (pc) (ls) (.int x :: st) M κ (if x ≤ 0 then F1 else F2) := by
  obtain ⟨p, l, e, R, s, m, args, below, meth, c, QQ⟩ := X
  obtain ⟨hx, hb, hml, hown, hts, -⟩ := C
  intro hF H locs lsA hP hS hl
  refine lv_if_le hx hb hd ht (fun q => ?_) (fun q => ?_)
  · rw [if_pos q] at hF
    exact k1 q hF H locs lsA hP hS hl
  · rw [if_neg q] at hF
    exact k2 q hF H locs lsA hP hS hl

theorem j_icmp_eq {z : Nat} {N : Nv9} {X : Cx9} {out : Out9 × Mem9} {nL cm : Nat} {cc : ByteArray} {own : String} {d rk : Nat} {hh : List (Nat × Nat × Nat × Nat)} {pc : Nat} {ls : List (Nat × Value)} {st : List Value} {M : Mem9} {κ : Nat} {F : Re9} (C : OK9 z N X out nL cm cc own d rk hh) {x y : Int32} {F1 F2 : Re9} {off : Int} {tgt : Nat} (hd : decode cc pc = .ok (.if_icmp .eq off, 3)) (ht : (pc : Int) + off = (tgt : Int)) (k1 : x = y → J9 z N X out nL (tgt) (ls) (st) M κ F1) (k2 : ¬ (x = y) → J9 z N X out nL (pc + 3) (ls) (st) M κ F2) : J9 z N X out nL (pc) (ls) (.int y :: .int x :: st) M κ (if x = y then F1 else F2) := by
  obtain ⟨p, l, e, R, s, m, args, below, meth, c, QQ⟩ := X
  obtain ⟨hx, hb, hml, hown, hts, -⟩ := C
  intro hF H locs lsA hP hS hl
  refine lv_icmp_eq hx hb hd ht (fun q => ?_) (fun q => ?_)
  · rw [if_pos q] at hF
    exact k1 q hF H locs lsA hP hS hl
  · rw [if_neg q] at hF
    exact k2 q hF H locs lsA hP hS hl

theorem j_icmp_ne {z : Nat} {N : Nv9} {X : Cx9} {out : Out9 × Mem9} {nL cm : Nat} {cc : ByteArray} {own : String} {d rk : Nat} {hh : List (Nat × Nat × Nat × Nat)} {pc : Nat} {ls : List (Nat × Value)} {st : List Value} {M : Mem9} {κ : Nat} {F : Re9} (C : OK9 z N X out nL cm cc own d rk hh) {x y : Int32} {F1 F2 : Re9} {off : Int} {tgt : Nat} (hd : decode cc pc = .ok (.if_icmp .ne off, 3)) (ht : (pc : Int) + off = (tgt : Int)) (k1 : ¬ x = y → J9 z N X out nL (tgt) (ls) (st) M κ F1) (k2 : x = y → J9 z N X out nL (pc + 3) (ls) (st) M κ F2) : J9 z N X out nL (pc) (ls) (.int y :: .int x :: st) M κ (if x = y then F2 else F1) := by
  obtain ⟨p, l, e, R, s, m, args, below, meth, c, QQ⟩ := X
  obtain ⟨hx, hb, hml, hown, hts, -⟩ := C
  intro hF H locs lsA hP hS hl
  refine lv_icmp_ne hx hb hd ht (fun q => ?_) (fun q => ?_)
  · rw [if_neg q] at hF
    exact k1 q hF H locs lsA hP hS hl
  · rw [if_pos q] at hF
    exact k2 q hF H locs lsA hP hS hl

theorem j_icmp_lt {z : Nat} {N : Nv9} {X : Cx9} {out : Out9 × Mem9} {nL cm : Nat} {cc : ByteArray} {own : String} {d rk : Nat} {hh : List (Nat × Nat × Nat × Nat)} {pc : Nat} {ls : List (Nat × Value)} {st : List Value} {M : Mem9} {κ : Nat} {F : Re9} (C : OK9 z N X out nL cm cc own d rk hh) {x y : Int32} {F1 F2 : Re9} {off : Int} {tgt : Nat} (hd : decode cc pc = .ok (.if_icmp .lt off, 3)) (ht : (pc : Int) + off = (tgt : Int)) (k1 : x < y → J9 z N X out nL (tgt) (ls) (st) M κ F1) (k2 : ¬ (x < y) → J9 z N X out nL (pc + 3) (ls) (st) M κ F2) : J9 z N X out nL (pc) (ls) (.int y :: .int x :: st) M κ (if x < y then F1 else F2) := by
  obtain ⟨p, l, e, R, s, m, args, below, meth, c, QQ⟩ := X
  obtain ⟨hx, hb, hml, hown, hts, -⟩ := C
  intro hF H locs lsA hP hS hl
  refine lv_icmp_lt hx hb hd ht (fun q => ?_) (fun q => ?_)
  · rw [if_pos q] at hF
    exact k1 q hF H locs lsA hP hS hl
  · rw [if_neg q] at hF
    exact k2 q hF H locs lsA hP hS hl

theorem j_icmp_ge {z : Nat} {N : Nv9} {X : Cx9} {out : Out9 × Mem9} {nL cm : Nat} {cc : ByteArray} {own : String} {d rk : Nat} {hh : List (Nat × Nat × Nat × Nat)} {pc : Nat} {ls : List (Nat × Value)} {st : List Value} {M : Mem9} {κ : Nat} {F : Re9} (C : OK9 z N X out nL cm cc own d rk hh) {x y : Int32} {F1 F2 : Re9} {off : Int} {tgt : Nat} (hd : decode cc pc = .ok (.if_icmp .ge off, 3)) (ht : (pc : Int) + off = (tgt : Int)) (k1 : y ≤ x → J9 z N X out nL (tgt) (ls) (st) M κ F1) (k2 : ¬ (y ≤ x) → J9 z N X out nL (pc + 3) (ls) (st) M κ F2) : J9 z N X out nL (pc) (ls) (.int y :: .int x :: st) M κ (if y ≤ x then F1 else F2) := by
  obtain ⟨p, l, e, R, s, m, args, below, meth, c, QQ⟩ := X
  obtain ⟨hx, hb, hml, hown, hts, -⟩ := C
  intro hF H locs lsA hP hS hl
  refine lv_icmp_ge hx hb hd ht (fun q => ?_) (fun q => ?_)
  · rw [if_pos q] at hF
    exact k1 q hF H locs lsA hP hS hl
  · rw [if_neg q] at hF
    exact k2 q hF H locs lsA hP hS hl

theorem j_icmp_gt {z : Nat} {N : Nv9} {X : Cx9} {out : Out9 × Mem9} {nL cm : Nat} {cc : ByteArray} {own : String} {d rk : Nat} {hh : List (Nat × Nat × Nat × Nat)} {pc : Nat} {ls : List (Nat × Value)} {st : List Value} {M : Mem9} {κ : Nat} {F : Re9} (C : OK9 z N X out nL cm cc own d rk hh) {x y : Int32} {F1 F2 : Re9} {off : Int} {tgt : Nat} (hd : decode cc pc = .ok (.if_icmp .gt off, 3)) (ht : (pc : Int) + off = (tgt : Int)) (k1 : y < x → J9 z N X out nL (tgt) (ls) (st) M κ F1) (k2 : ¬ (y < x) → J9 z N X out nL (pc + 3) (ls) (st) M κ F2) : J9 z N X out nL (pc) (ls) (.int y :: .int x :: st) M κ (if y < x then F1 else F2) := by
  obtain ⟨p, l, e, R, s, m, args, below, meth, c, QQ⟩ := X
  obtain ⟨hx, hb, hml, hown, hts, -⟩ := C
  intro hF H locs lsA hP hS hl
  refine lv_icmp_gt hx hb hd ht (fun q => ?_) (fun q => ?_)
  · rw [if_pos q] at hF
    exact k1 q hF H locs lsA hP hS hl
  · rw [if_neg q] at hF
    exact k2 q hF H locs lsA hP hS hl

theorem j_icmp_le {z : Nat} {N : Nv9} {X : Cx9} {out : Out9 × Mem9} {nL cm : Nat} {cc : ByteArray} {own : String} {d rk : Nat} {hh : List (Nat × Nat × Nat × Nat)} {pc : Nat} {ls : List (Nat × Value)} {st : List Value} {M : Mem9} {κ : Nat} {F : Re9} (C : OK9 z N X out nL cm cc own d rk hh) {x y : Int32} {F1 F2 : Re9} {off : Int} {tgt : Nat} (hd : decode cc pc = .ok (.if_icmp .le off, 3)) (ht : (pc : Int) + off = (tgt : Int)) (k1 : x ≤ y → J9 z N X out nL (tgt) (ls) (st) M κ F1) (k2 : ¬ (x ≤ y) → J9 z N X out nL (pc + 3) (ls) (st) M κ F2) : J9 z N X out nL (pc) (ls) (.int y :: .int x :: st) M κ (if x ≤ y then F1 else F2) := by
  obtain ⟨p, l, e, R, s, m, args, below, meth, c, QQ⟩ := X
  obtain ⟨hx, hb, hml, hown, hts, -⟩ := C
  intro hF H locs lsA hP hS hl
  refine lv_icmp_le hx hb hd ht (fun q => ?_) (fun q => ?_)
  · rw [if_pos q] at hF
    exact k1 q hF H locs lsA hP hS hl
  · rw [if_neg q] at hF
    exact k2 q hF H locs lsA hP hS hl
end
section

/-! ===== the rules that touch the cells, the calls, the ends ===== -/
theorem j_goto {z : Nat} {N : Nv9} {X : Cx9} {out : Out9 × Mem9} {nL cm : Nat} {cc : ByteArray} {own : String} {d rk : Nat} {hh : List (Nat × Nat × Nat × Nat)} {pc : Nat} {ls : List (Nat × Value)} {st : List Value} {M : Mem9} {κ : Nat} {F : Re9} (C : OK9 z N X out nL cm cc own d rk hh) {off : Int} {tgt : Nat} (hd : decode cc pc = .ok (.goto off, 3)) (ht : (pc : Int) + off = (tgt : Int)) (k : J9 z N X out nL tgt ls st M κ F) : J9 z N X out nL pc ls st M κ F := by
  obtain ⟨p, l, e, R, s, m, args, below, meth, c, QQ⟩ := X
  obtain ⟨hx, hb, hml, hown, hts, -⟩ := C
  intro hF H locs lsA hP hS hl
  exact lv_goto hx hb hd ht (k hF H locs lsA hP hS hl)
theorem j_tsIn {z : Nat} {N : Nv9} {X : Cx9} {out : Out9 × Mem9} {nL cm : Nat} {cc : ByteArray} {own : String} {d rk : Nat} {hh : List (Nat × Nat × Nat × Nat)} {pc : Nat} {ls : List (Nat × Value)} {st : List Value} {M : Mem9} {κ : Nat} {F : Re9} (C : OK9 z N X out nL cm cc own d rk hh) {dflt lo hi : Int} {offs : Array Int} {len : Nat} {x : Int32} (v : Int) {off : Int} {tgt : Nat} (hd : decode cc pc = .ok (.tableswitch dflt lo hi offs, len)) (hv : x.toInt = v) (h1 : lo ≤ v ∧ v ≤ hi) (ho : offs[(v - lo).toNat]? = some off) (ht : (pc : Int) + off = (tgt : Int)) (k : J9 z N X out nL tgt ls st M κ F) : J9 z N X out nL pc ls (.int x :: st) M κ F := by
  obtain ⟨p, l, e, R, s, m, args, below, meth, c, QQ⟩ := X
  obtain ⟨hx, hb, hml, hown, hts, -⟩ := C
  intro hF H locs lsA hP hS hl
  exact lv_tableIn hx hb hd (by omega) (by omega) (by rw [hv]; exact ho) ht (k hF H locs lsA hP hS hl)
theorem j_tsOut {z : Nat} {N : Nv9} {X : Cx9} {out : Out9 × Mem9} {nL cm : Nat} {cc : ByteArray} {own : String} {d rk : Nat} {hh : List (Nat × Nat × Nat × Nat)} {pc : Nat} {ls : List (Nat × Value)} {st : List Value} {M : Mem9} {κ : Nat} {F : Re9} (C : OK9 z N X out nL cm cc own d rk hh) {dflt lo hi : Int} {offs : Array Int} {len : Nat} {x : Int32} {tgt : Nat} (hd : decode cc pc = .ok (.tableswitch dflt lo hi offs, len)) (h : x.toInt < lo ∨ hi < x.toInt) (ht : (pc : Int) + dflt = (tgt : Int)) (k : J9 z N X out nL tgt ls st M κ F) : J9 z N X out nL pc ls (.int x :: st) M κ F := by
  obtain ⟨p, l, e, R, s, m, args, below, meth, c, QQ⟩ := X
  obtain ⟨hx, hb, hml, hown, hts, -⟩ := C
  intro hF H locs lsA hP hS hl
  exact lv_tableOut hx hb hd h ht (k hF H locs lsA hP hS hl)
theorem j_lookup {z : Nat} {N : Nv9} {X : Cx9} {out : Out9 × Mem9} {nL cm : Nat} {cc : ByteArray} {own : String} {d rk : Nat} {hh : List (Nat × Nat × Nat × Nat)} {pc : Nat} {ls : List (Nat × Value)} {st : List Value} {M : Mem9} {κ : Nat} {F : Re9} (C : OK9 z N X out nL cm cc own d rk hh) {dflt : Int} {ps : Array (Int × Int)} {len : Nat} {x : Int32} {off : Int} {tgt : Nat} (hd : decode cc pc = .ok (.lookupswitch dflt ps, len)) (hp : (ps.toList.zip (ps.toList.drop 1)).all (fun (a, next) => a.1 < next.1) = true) (ho : Op.lookupswitch.offset ps.toList dflt x.toInt = off) (ht : (pc : Int) + off = (tgt : Int)) (k : J9 z N X out nL tgt ls st M κ F) : J9 z N X out nL pc ls (.int x :: st) M κ F := by
  obtain ⟨p, l, e, R, s, m, args, below, meth, c, QQ⟩ := X
  obtain ⟨hx, hb, hml, hown, hts, -⟩ := C
  intro hF H locs lsA hP hS hl
  exact lv_lookup hx hb hd hp ho ht (k hF H locs lsA hP hS hl)
theorem j_ldc2 {z : Nat} {N : Nv9} {X : Cx9} {out : Out9 × Mem9} {nL cm : Nat} {cc : ByteArray} {own : String} {d rk : Nat} {hh : List (Nat × Nat × Nat × Nat)} {pc : Nat} {ls : List (Nat × Value)} {st : List Value} {M : Mem9} {κ : Nat} {F : Re9} (C : OK9 z N X out nL cm cc own d rk hh) {idx : Nat} {v : Int64} (hd : decode cc pc = .ok (.ldc2_w idx, 3)) (hc : Cond.constantLong own idx v ∈ gw9) (k : J9 z N X out nL (pc + 3) ls (.long v :: st) M κ F) : J9 z N X out nL pc ls st M κ F := by
  obtain ⟨p, l, e, R, s, m, args, below, meth, c, QQ⟩ := X
  obtain ⟨hx, hb, hml, hown, hts, -⟩ := C
  intro hF H locs lsA hP hS hl
  exact lv_ldc2 hx hb hown (hts _ hc) hd (k hF H locs lsA hP hS hl)
theorem j_ldc {z : Nat} {N : Nv9} {X : Cx9} {out : Out9 × Mem9} {nL cm : Nat} {cc : ByteArray} {own : String} {d rk : Nat} {hh : List (Nat × Nat × Nat × Nat)} {pc : Nat} {ls : List (Nat × Value)} {st : List Value} {M : Mem9} {κ : Nat} {F : Re9} (C : OK9 z N X out nL cm cc own d rk hh) {idx : Nat} {v : Int32} (hd : decode cc pc = .ok (.ldc idx, 2)) (hc : Cond.constant own idx v ∈ gw9) (k : J9 z N X out nL (pc + 2) ls (.int v :: st) M κ F) : J9 z N X out nL pc ls st M κ F := by
  obtain ⟨p, l, e, R, s, m, args, below, meth, c, QQ⟩ := X
  obtain ⟨hx, hb, hml, hown, hts, -⟩ := C
  intro hF H locs lsA hP hS hl
  exact lv_ldc hx hb hown (hts _ hc) hd (k hF H locs lsA hP hS hl)
/-- a field's link: by the class's place, the field's place -/
def FL9 (own : String) (idx ci k : Nat) (T : u_T) (Nf : Nat) : Prop := vwCl[ci]? = some ((T k).1, T, Nf) ∧ k < Nf ∧ (∀ w ∈ u_ws (T k).1 T Nf, w ∈ gw9) ∧ Cond.fieldLink own idx (T k).1 (T k).2.1 (T k).2.2.1 ∈ gw9 ∧ (∃ ty0 : Nat → FieldType, ∀ j, j < Nf → parseFieldDescriptor (T j).2.2.1 = some (ty0 j)) ∧ (∀ a, a < Nf → ∀ b, b < Nf → a ≠ b → (T a).2.1 ≠ (T b).2.1)
def FI9 (ci k : Nat) : Prop := ∀ (ca : Nat → ClassId) (a n : Nat) (m : Nat → Int32), ∃ fs : List Value, mk9 ca a m (ci, n) = .inr (ci, fs) ∧ fs[k]? = some (.int (m k)) ∧ k < fs.length ∧ ∀ v : Int32, mk9 ca a (fun j => if j = k then v else m j) (ci, n) = .inr (ci, fs.set k (.int v))
def FR9 (ci k off : Nat) : Prop := ∀ (ca : Nat → ClassId) (a n : Nat) (m : Nat → Int32), ∃ fs : List Value, mk9 ca a m (ci, n) = .inr (ci, fs) ∧ fs[k]? = some (.ref (a + off))
theorem mk9_kd {ca : Nat → ClassId} {a : Nat} {m : Nat → Int32} {i ci : Nat} (h : (kd9 i).1 = ci) : mk9 ca a m (kd9 i) = mk9 ca a m (ci, (kd9 i).2) := by rw [← h]
theorem okO9.add {z a ci : Nat} (h : okO9 z a ci) : ∃ i, i < 392 ∧ a = z + i ∧ (kd9 i).1 = ci := ⟨a - z, by omega, by omega, h.2.2⟩
theorem okA9.add {z a t : Nat} {i : Int32} (h : okA9 z a t i) : ∃ j, j < 392 ∧ a = z + j ∧ (kd9 j).1 = t ∧ vp_in i (kd9 j).2 := ⟨a - z, by omega, by omega, h.2.2.1, vp_in_iff.mpr h.2.2.2⟩
theorem j_getI {z : Nat} {N : Nv9} {X : Cx9} {out : Out9 × Mem9} {nL cm : Nat} {cc : ByteArray} {own : String} {d rk : Nat} {hh : List (Nat × Nat × Nat × Nat)} {pc : Nat} {ls : List (Nat × Value)} {st : List Value} {M : Mem9} {κ : Nat} {F : Re9} (C : OK9 z N X out nL cm cc own d rk hh) {idx ci k Nf a : Nat} {T : u_T} {K : Int32 → Re9} (hd : decode cc pc = .ok (.getfield idx, 3)) (hf : FL9 own idx ci k T Nf) (hi : FI9 ci k) (kk : ∀ v, J9 z N X out nL (pc + 3) ls (.int v :: st) M κ (K v)) : J9 z N X out nL pc ls (.ref a :: st) M κ ((gf9 z M a ci k).bind K) := by
  obtain ⟨p, l, e, R, s, m, args, below, meth, c, QQ⟩ := X
  obtain ⟨hx, hb, hml, hown, hts, hE, -⟩ := C
  obtain ⟨sb, L, xs, D, ca⟩ := N
  intro hF H locs lsA hP hS hl
  unfold gf9 at hF
  by_cases h0 : okO9 z a ci
  · rw [if_pos h0] at hF
    obtain ⟨i, hi3, rfl, hkd⟩ := h0.add
    obtain ⟨f1, f2, f3, f4, f5, f6⟩ := hf
    obtain ⟨fs, g1, g2, -⟩ := hi ca (z + i) (kd9 i).2 (M (z + i))
    exact va_get (D := D) (ci := ci) (v := .int (M (z + i) k)) hx hb hts f3 hown hE.1 hP i (by rw [WS9_get hi3, mk9_kd hkd, g1]) f1 k f2 (hts _ f4) (fun _ h9 => h9) g2 hd (kk _ hF H locs lsA hP hS hl)
  · rw [if_neg h0] at hF
    cases hF
theorem j_getR {z : Nat} {N : Nv9} {X : Cx9} {out : Out9 × Mem9} {nL cm : Nat} {cc : ByteArray} {own : String} {d rk : Nat} {hh : List (Nat × Nat × Nat × Nat)} {pc : Nat} {ls : List (Nat × Value)} {st : List Value} {M : Mem9} {κ : Nat} {F : Re9} (C : OK9 z N X out nL cm cc own d rk hh) {idx ci k Nf a off : Nat} {T : u_T} {K : Nat → Re9} (hd : decode cc pc = .ok (.getfield idx, 3)) (hf : FL9 own idx ci k T Nf) (hi : FR9 ci k off) (kk : ∀ v, J9 z N X out nL (pc + 3) ls (.ref v :: st) M κ (K v)) : J9 z N X out nL pc ls (.ref a :: st) M κ ((rf9 z a ci off).bind K) := by
  obtain ⟨p, l, e, R, s, m, args, below, meth, c, QQ⟩ := X
  obtain ⟨hx, hb, hml, hown, hts, hE, -⟩ := C
  obtain ⟨sb, L, xs, D, ca⟩ := N
  intro hF H locs lsA hP hS hl
  unfold rf9 at hF
  by_cases h0 : okO9 z a ci
  · rw [if_pos h0] at hF
    obtain ⟨i, hi3, rfl, hkd⟩ := h0.add
    obtain ⟨f1, f2, f3, f4, f5, f6⟩ := hf
    obtain ⟨fs, g1, g2⟩ := hi ca (z + i) (kd9 i).2 (M (z + i))
    exact va_get (D := D) (ci := ci) (v := .ref (z + i + off)) hx hb hts f3 hown hE.1 hP i (by rw [WS9_get hi3, mk9_kd hkd, g1]) f1 k f2 (hts _ f4) (fun _ h9 => h9) g2 hd (kk _ hF H locs lsA hP hS hl)
  · rw [if_neg h0] at hF
    cases hF
theorem j_put0 {z : Nat} {N : Nv9} {p : Program} {l : Launch} {e : Env} {R : Room} {s : State} {m : MethodId} {args : Array Value} {below : List Frame} {meth : Method} {c : Code} {QQ : State → Prop} {cc : ByteArray} {own : String} {pc : Nat} {rest : List Value} {M : Mem9} {cells slots : Nat} {H : Heap} {locs : List Loc} {lsA : Array Slot} {idx ci k Nf a : Nat} {T : u_T} {v : Int32} {ty : FieldType} (hx : p.tables.exec = Jvm.exec) (hb : c.code = cc) (hown : s.vm.findClass own = some m.cls) (hts : ∀ w ∈ gw9, w.before args s = true) (hE : EV9 z N s)
    (hd : decode cc pc = .ok (.putfield idx, 3)) (hf : FL9 own idx ci k T Nf) (hi : FI9 ci k) (hfin : (T k).2.2.2 = false) (hty : parseFieldDescriptor (T k).2.2.1 = some ty) (hn : narrow ty (.int v) = .int v) (hfit : fits ty (.int v) = true) (h0 : okO9 z a ci) (hP : PM9 z N M H) (hS : va_S (A9 z) s.heap H locs)
    (kk : ∀ (H1 : Heap) (locs1 : List Loc), PM9 z N (wr9 M a k v) H1 → va_S (A9 z) s.heap H1 locs1 → W p l e R s m args below meth c H1 locs1 cells slots QQ (F0 m (pc + 3) lsA rest)) : W p l e R s m args below meth c H locs cells slots QQ (F0 m pc lsA (.int v :: .ref a :: rest)) := by
  obtain ⟨sb, L, xs, D, ca⟩ := N
  obtain ⟨i, hi3, rfl, hkd⟩ := h0.add
  obtain ⟨f1, f2, f3, f4, ⟨ty0, f5⟩, f6⟩ := hf
  obtain ⟨fs, g1, g2, g3, g4⟩ := hi ca (z + i) (kd9 i).2 (M (z + i))
  refine va_put (D := D) (ci := ci) (v := .int v) (ty := ty) hx hb hts f3 ty0 f5 f6 hown hE.1 hP (WS9_D z ca M) hS i (by rw [WS9_get hi3, mk9_kd hkd, g1]) f1 k f2 (hts _ f4) (fun _ h9 => h9) hfin hty hn hfit g3 hd (fun H1 locs1 hP1 hD1 hS1 => kk H1 locs1 ?_ hS1)
  rw [WS9_set (M' := wr9 M (z + i) k v) hi3 (fun b hb => wr9_ne hb) (by rw [wr9_eq, mk9_kd hkd]; exact g4 v)] at hP1
  exact hP1
theorem j_putI {z : Nat} {N : Nv9} {X : Cx9} {out : Out9 × Mem9} {nL cm : Nat} {cc : ByteArray} {own : String} {d rk : Nat} {hh : List (Nat × Nat × Nat × Nat)} {pc : Nat} {ls : List (Nat × Value)} {st : List Value} {M : Mem9} {κ : Nat} {F : Re9} (C : OK9 z N X out nL cm cc own d rk hh) {idx ci k Nf a : Nat} {T : u_T} {v : Int32} {K : Mem9 → Re9} (hd : decode cc pc = .ok (.putfield idx, 3)) (hf : FL9 own idx ci k T Nf) (hi : FI9 ci k) (hfin : (T k).2.2.2 = false) (hty : parseFieldDescriptor (T k).2.2.1 = some .int) (kk : ∀ M', J9 z N X out nL (pc + 3) ls st M' κ (K M')) : J9 z N X out nL pc ls (.int v :: .ref a :: st) M κ ((pf9 z M a ci k v).bind K) := by
  obtain ⟨p, l, e, R, s, m, args, below, meth, c, QQ⟩ := X
  obtain ⟨hx, hb, hml, hown, hts, hE, -⟩ := C
  intro hF H locs lsA hP hS hl
  unfold pf9 at hF
  by_cases h0 : okO9 z a ci
  · rw [if_pos h0] at hF
    exact j_put0 hx hb hown hts hE hd hf hi hfin hty rfl rfl h0 hP hS (fun H1 locs1 hP1 hS1 => kk _ hF H1 locs1 lsA hP1 hS1 hl)
  · rw [if_neg h0] at hF
    cases hF
theorem j_putZ {z : Nat} {N : Nv9} {X : Cx9} {out : Out9 × Mem9} {nL cm : Nat} {cc : ByteArray} {own : String} {d rk : Nat} {hh : List (Nat × Nat × Nat × Nat)} {pc : Nat} {ls : List (Nat × Value)} {st : List Value} {M : Mem9} {κ : Nat} {F : Re9} (C : OK9 z N X out nL cm cc own d rk hh) {idx ci k Nf a : Nat} {T : u_T} {v : Int32} {K : Mem9 → Re9} (hd : decode cc pc = .ok (.putfield idx, 3)) (hf : FL9 own idx ci k T Nf) (hi : FI9 ci k) (hfin : (T k).2.2.2 = false) (hty : parseFieldDescriptor (T k).2.2.1 = some .boolean) (kk : ∀ M', J9 z N X out nL (pc + 3) ls st M' κ (K M')) : J9 z N X out nL pc ls (.int v :: .ref a :: st) M κ ((pz9 z M a ci k v).bind K) := by
  obtain ⟨p, l, e, R, s, m, args, below, meth, c, QQ⟩ := X
  obtain ⟨hx, hb, hml, hown, hts, hE, -⟩ := C
  intro hF H locs lsA hP hS hl
  unfold pz9 at hF
  by_cases h0 : okO9 z a ci ∧ b9 v
  · rw [if_pos h0] at hF
    refine j_put0 hx hb hown hts hE hd hf hi hfin hty ?_ ?_ h0.1 hP hS (fun H1 locs1 hP1 hS1 => kk _ hF H1 locs1 lsA hP1 hS1 hl)
    · rcases h0.2 with rfl | rfl <;> rfl
    · rcases h0.2 with rfl | rfl <;> rfl
  · rw [if_neg h0] at hF
    cases hF
theorem j_iaload {z : Nat} {N : Nv9} {X : Cx9} {out : Out9 × Mem9} {nL cm : Nat} {cc : ByteArray} {own : String} {d rk : Nat} {hh : List (Nat × Nat × Nat × Nat)} {pc : Nat} {ls : List (Nat × Value)} {st : List Value} {M : Mem9} {κ : Nat} {F : Re9} (C : OK9 z N X out nL cm cc own d rk hh) {a : Nat} {i : Int32} {K : Int32 → Re9} (hd : decode cc pc = .ok (.iaload, 1)) (kk : ∀ v, J9 z N X out nL (pc + 1) ls (.int v :: st) M κ (K v)) : J9 z N X out nL pc ls (.int i :: .ref a :: st) M κ ((ld9 z M 10 a i).bind K) := by
  obtain ⟨p, l, e, R, s, m, args, below, meth, c, QQ⟩ := X
  obtain ⟨hx, hb, hml, hown, hts, hE, -⟩ := C
  obtain ⟨sb, L, xs, D, ca⟩ := N
  intro hF H locs lsA hP hS hl
  unfold ld9 at hF
  by_cases h0 : okA9 z a 10 i
  · rw [if_pos h0] at hF
    obtain ⟨j, hj, rfl, hkd, hin⟩ := h0.add
    exact va_iald (D := D) (cA := ca 0) (f := M (z + j)) hx hb hE.1 hP j 0 (by rw [WS9_get hj, mk9_kd hkd]; rfl) rfl hin hd (kk _ hF H locs lsA hP hS hl)
  · rw [if_neg h0] at hF
    cases hF
theorem j_baload {z : Nat} {N : Nv9} {X : Cx9} {out : Out9 × Mem9} {nL cm : Nat} {cc : ByteArray} {own : String} {d rk : Nat} {hh : List (Nat × Nat × Nat × Nat)} {pc : Nat} {ls : List (Nat × Value)} {st : List Value} {M : Mem9} {κ : Nat} {F : Re9} (C : OK9 z N X out nL cm cc own d rk hh) {a : Nat} {i : Int32} {K : Int32 → Re9} (hd : decode cc pc = .ok (.baload, 1)) (kk : ∀ v, J9 z N X out nL (pc + 1) ls (.int v :: st) M κ (K v)) : J9 z N X out nL pc ls (.int i :: .ref a :: st) M κ ((ld9 z M 11 a i).bind K) := by
  obtain ⟨p, l, e, R, s, m, args, below, meth, c, QQ⟩ := X
  obtain ⟨hx, hb, hml, hown, hts, hE, -⟩ := C
  obtain ⟨sb, L, xs, D, ca⟩ := N
  intro hF H locs lsA hP hS hl
  unfold ld9 at hF
  by_cases h0 : okA9 z a 11 i
  · rw [if_pos h0] at hF
    obtain ⟨j, hj, rfl, hkd, hin⟩ := h0.add
    exact va_zald (D := D) (cA := ca 1) (f := M (z + j)) hx hb hE.1 hP j 1 (by rw [WS9_get hj, mk9_kd hkd]; rfl) rfl hin hd (kk _ hF H locs lsA hP hS hl)
  · rw [if_neg h0] at hF
    cases hF
theorem j_caload {z : Nat} {N : Nv9} {X : Cx9} {out : Out9 × Mem9} {nL cm : Nat} {cc : ByteArray} {own : String} {d rk : Nat} {hh : List (Nat × Nat × Nat × Nat)} {pc : Nat} {ls : List (Nat × Value)} {st : List Value} {M : Mem9} {κ : Nat} {F : Re9} (C : OK9 z N X out nL cm cc own d rk hh) {a : Nat} {i : Int32} {K : Int32 → Re9} (hd : decode cc pc = .ok (.caload, 1)) (kk : ∀ v, J9 z N X out nL (pc + 1) ls (.int v :: st) M κ (K v)) : J9 z N X out nL pc ls (.int i :: .ref a :: st) M κ ((ld9 z M 12 a i).bind K) := by
  obtain ⟨p, l, e, R, s, m, args, below, meth, c, QQ⟩ := X
  obtain ⟨hx, hb, hml, hown, hts, hE, -⟩ := C
  obtain ⟨sb, L, xs, D, ca⟩ := N
  intro hF H locs lsA hP hS hl
  unfold ld9 at hF
  by_cases h0 : okA9 z a 12 i
  · rw [if_pos h0] at hF
    obtain ⟨j, hj, rfl, hkd, hin⟩ := h0.add
    exact va_cald (D := D) (cA := ca 2) (f := M (z + j)) hx hb hE.1 hP j 2 (by rw [WS9_get hj, mk9_kd hkd]; rfl) rfl hin hd (kk _ hF H locs lsA hP hS hl)
  · rw [if_neg h0] at hF
    cases hF
theorem j_laload {z : Nat} {N : Nv9} {X : Cx9} {out : Out9 × Mem9} {nL cm : Nat} {cc : ByteArray} {own : String} {d rk : Nat} {hh : List (Nat × Nat × Nat × Nat)} {pc : Nat} {ls : List (Nat × Value)} {st : List Value} {M : Mem9} {κ : Nat} {F : Re9} (C : OK9 z N X out nL cm cc own d rk hh) {a : Nat} {i : Int32} {K : Int32 → Re9} (hd : decode cc pc = .ok (.laload, 1)) (kk : ∀ v : Int32, J9 z N X out nL (pc + 1) ls (.long v.toInt64 :: st) M κ (K v)) : J9 z N X out nL pc ls (.int i :: .ref a :: st) M κ ((ld9 z M 13 a i).bind K) := by
  obtain ⟨p, l, e, R, s, m, args, below, meth, c, QQ⟩ := X
  obtain ⟨hx, hb, hml, hown, hts, hE, -⟩ := C
  obtain ⟨sb, L, xs, D, ca⟩ := N
  intro hF H locs lsA hP hS hl
  unfold ld9 at hF
  by_cases h0 : okA9 z a 13 i
  · rw [if_pos h0] at hF
    obtain ⟨j, hj, rfl, hkd, hin⟩ := h0.add
    exact va_lald (D := D) (cA := ca 3) (f := fun k => (M (z + j) k).toInt64) hx hb hE.1 hP j 3 (by rw [WS9_get hj, mk9_kd hkd]; rfl) rfl hin hd (kk _ hF H locs lsA hP hS hl)
  · rw [if_neg h0] at hF
    cases hF
theorem j_aaload {z : Nat} {N : Nv9} {X : Cx9} {out : Out9 × Mem9} {nL cm : Nat} {cc : ByteArray} {own : String} {d rk : Nat} {hh : List (Nat × Nat × Nat × Nat)} {pc : Nat} {ls : List (Nat × Value)} {st : List Value} {M : Mem9} {κ : Nat} {F : Re9} (C : OK9 z N X out nL cm cc own d rk hh) {t a : Nat} {i : Int32} {K : Nat → Re9} (hd : decode cc pc = .ok (.aaload, 1)) (ht : t = 14 ∨ t = 15 ∨ t = 16) (kk : ∀ v, J9 z N X out nL (pc + 1) ls (.ref v :: st) M κ (K v)) : J9 z N X out nL pc ls (.int i :: .ref a :: st) M κ ((la9 z t a i).bind K) := by
  obtain ⟨p, l, e, R, s, m, args, below, meth, c, QQ⟩ := X
  obtain ⟨hx, hb, hml, hown, hts, hE, -⟩ := C
  obtain ⟨sb, L, xs, D, ca⟩ := N
  intro hF H locs lsA hP hS hl
  unfold la9 at hF
  by_cases h0 : okA9 z a t i
  · rw [if_pos h0] at hF
    obtain ⟨j, hj, rfl, hkd, hin⟩ := h0.add
    rcases ht with rfl | rfl | rfl
    · exact va_aldq (D := D) (cA := ca 4) (C := "LorryArms$Lane") (f := fun k => some (z + j + 2 + 6 * k)) hx hb hE.1 hP j 4 (by rw [WS9_get hj, mk9_kd hkd]; rfl) rfl hin hd (kk _ hF H locs lsA hP hS hl)
    · exact va_aldq (D := D) (cA := ca 5) (C := "LorryArms$Gate") (f := fun k => some (z + j + 3 + 21 * k)) hx hb hE.1 hP j 5 (by rw [WS9_get hj, mk9_kd hkd]; rfl) rfl hin hd (kk _ hF H locs lsA hP hS hl)
    · exact va_aldq (D := D) (cA := ca 5) (C := "LorryArms$Gate") (f := fun k => some (z + j + 296 + 21 * k)) hx hb hE.1 hP j 5 (by rw [WS9_get hj, mk9_kd hkd]; rfl) rfl hin hd (kk _ hF H locs lsA hP hS hl)
  · rw [if_neg h0] at hF
    cases hF
theorem j_iastore {z : Nat} {N : Nv9} {X : Cx9} {out : Out9 × Mem9} {nL cm : Nat} {cc : ByteArray} {own : String} {d rk : Nat} {hh : List (Nat × Nat × Nat × Nat)} {pc : Nat} {ls : List (Nat × Value)} {st : List Value} {M : Mem9} {κ : Nat} {F : Re9} (C : OK9 z N X out nL cm cc own d rk hh) {a : Nat} {i v : Int32} {K : Mem9 → Re9} (hd : decode cc pc = .ok (.iastore, 1)) (kk : ∀ M', J9 z N X out nL (pc + 1) ls st M' κ (K M')) : J9 z N X out nL pc ls (.int v :: .int i :: .ref a :: st) M κ ((st9 z M a i v).bind K) := by
  obtain ⟨p, l, e, R, s, m, args, below, meth, c, QQ⟩ := X
  obtain ⟨hx, hb, hml, hown, hts, hE, -⟩ := C
  obtain ⟨sb, L, xs, D, ca⟩ := N
  intro hF H locs lsA hP hS hl
  unfold st9 at hF
  by_cases h0 : okA9 z a 10 i
  · rw [if_pos h0] at hF
    obtain ⟨j, hj, rfl, hkd, hin⟩ := h0.add
    refine va_iast (D := D) (cA := ca 0) (f := M (z + j)) hx hb hE.1 hP (WS9_D z ca M) hS j 0 (by rw [WS9_get hj, mk9_kd hkd]; rfl) rfl hin hd (fun H1 locs1 hP1 hD1 hS1 => kk _ hF H1 locs1 lsA ?_ hS1 hl)
    rw [WS9_set (M' := wr9 M (z + j) i.toNatClampNeg v) hj (fun b hb => wr9_ne hb) (by rw [wr9_eq, mk9_kd hkd]; rfl)] at hP1
    exact hP1
  · rw [if_neg h0] at hF
    cases hF
theorem j_bastore {z : Nat} {N : Nv9} {X : Cx9} {out : Out9 × Mem9} {nL cm : Nat} {cc : ByteArray} {own : String} {d rk : Nat} {hh : List (Nat × Nat × Nat × Nat)} {pc : Nat} {ls : List (Nat × Value)} {st : List Value} {M : Mem9} {κ : Nat} {F : Re9} (C : OK9 z N X out nL cm cc own d rk hh) {a : Nat} {i v : Int32} {K : Mem9 → Re9} (hd : decode cc pc = .ok (.bastore, 1)) (kk : ∀ M', J9 z N X out nL (pc + 1) ls st M' κ (K M')) : J9 z N X out nL pc ls (.int v :: .int i :: .ref a :: st) M κ ((sz9 z M a i v).bind K) := by
  obtain ⟨p, l, e, R, s, m, args, below, meth, c, QQ⟩ := X
  obtain ⟨hx, hb, hml, hown, hts, hE, -⟩ := C
  obtain ⟨sb, L, xs, D, ca⟩ := N
  intro hF H locs lsA hP hS hl
  unfold sz9 at hF
  by_cases h0 : okA9 z a 11 i ∧ b9 v
  · rw [if_pos h0] at hF
    obtain ⟨j, hj, rfl, hkd, hin⟩ := h0.1.add
    have hv : vp_nar .boolean v = v := by rcases h0.2 with rfl | rfl <;> rfl
    refine va_zast (D := D) (cA := ca 1) (f := M (z + j)) hx hb hE.1 hP (WS9_D z ca M) hS j 1 (by rw [WS9_get hj, mk9_kd hkd]; rfl) rfl hin hd (fun H1 locs1 hP1 hD1 hS1 => kk _ hF H1 locs1 lsA ?_ hS1 hl)
    rw [hv, WS9_set (M' := wr9 M (z + j) i.toNatClampNeg v) hj (fun b hb => wr9_ne hb) (by rw [wr9_eq, mk9_kd hkd]; rfl)] at hP1
    exact hP1
  · rw [if_neg h0] at hF
    cases hF
theorem j_castore {z : Nat} {N : Nv9} {X : Cx9} {out : Out9 × Mem9} {nL cm : Nat} {cc : ByteArray} {own : String} {d rk : Nat} {hh : List (Nat × Nat × Nat × Nat)} {pc : Nat} {ls : List (Nat × Value)} {st : List Value} {M : Mem9} {κ : Nat} {F : Re9} (C : OK9 z N X out nL cm cc own d rk hh) {a : Nat} {i v : Int32} {K : Mem9 → Re9} (hd : decode cc pc = .ok (.castore, 1)) (kk : ∀ M', J9 z N X out nL (pc + 1) ls st M' κ (K M')) : J9 z N X out nL pc ls (.int v :: .int i :: .ref a :: st) M κ ((sc9 z M a i v).bind K) := by
  obtain ⟨p, l, e, R, s, m, args, below, meth, c, QQ⟩ := X
  obtain ⟨hx, hb, hml, hown, hts, hE, -⟩ := C
  obtain ⟨sb, L, xs, D, ca⟩ := N
  intro hF H locs lsA hP hS hl
  unfold sc9 at hF
  by_cases h0 : okA9 z a 12 i ∧ vp_nar .char v = v
  · rw [if_pos h0] at hF
    obtain ⟨j, hj, rfl, hkd, hin⟩ := h0.1.add
    refine va_cast (D := D) (cA := ca 2) (f := M (z + j)) hx hb hE.1 hP (WS9_D z ca M) hS j 2 (by rw [WS9_get hj, mk9_kd hkd]; rfl) rfl hin hd (fun H1 locs1 hP1 hD1 hS1 => kk _ hF H1 locs1 lsA ?_ hS1 hl)
    rw [h0.2, WS9_set (M' := wr9 M (z + j) i.toNatClampNeg v) hj (fun b hb => wr9_ne hb) (by rw [wr9_eq, mk9_kd hkd]; rfl)] at hP1
    exact hP1
  · rw [if_neg h0] at hF
    cases hF
theorem j_lastore {z : Nat} {N : Nv9} {X : Cx9} {out : Out9 × Mem9} {nL cm : Nat} {cc : ByteArray} {own : String} {d rk : Nat} {hh : List (Nat × Nat × Nat × Nat)} {pc : Nat} {ls : List (Nat × Value)} {st : List Value} {M : Mem9} {κ : Nat} {F : Re9} (C : OK9 z N X out nL cm cc own d rk hh) {a : Nat} {i v : Int32} {K : Mem9 → Re9} (hd : decode cc pc = .ok (.lastore, 1)) (kk : ∀ M', J9 z N X out nL (pc + 1) ls st M' κ (K M')) : J9 z N X out nL pc ls (.long v.toInt64 :: .int i :: .ref a :: st) M κ ((sl9 z M a i v).bind K) := by
  obtain ⟨p, l, e, R, s, m, args, below, meth, c, QQ⟩ := X
  obtain ⟨hx, hb, hml, hown, hts, hE, -⟩ := C
  obtain ⟨sb, L, xs, D, ca⟩ := N
  intro hF H locs lsA hP hS hl
  unfold sl9 at hF
  by_cases h0 : okA9 z a 13 i
  · rw [if_pos h0] at hF
    obtain ⟨j, hj, rfl, hkd, hin⟩ := h0.add
    refine va_last (D := D) (cA := ca 3) (f := fun k => (M (z + j) k).toInt64) hx hb hE.1 hP (WS9_D z ca M) hS j 3 (by rw [WS9_get hj, mk9_kd hkd]; rfl) rfl hin hd (fun H1 locs1 hP1 hD1 hS1 => kk _ hF H1 locs1 lsA ?_ hS1 hl)
    have he : mk9 ca (z + j) (wr9 M (z + j) i.toNatClampNeg v (z + j)) (kd9 j) = .inl (ca 3, (kd9 j).2, .inr (.inl (vp_updL (fun k => (M (z + j) k).toInt64) i.toNatClampNeg v.toInt64))) := by
      rw [wr9_eq, mk9_kd hkd]
      show (Sum.inl (ca 3, (kd9 j).2, Sum.inr (Sum.inl (fun k => (if k = i.toNatClampNeg then v else M (z + j) k).toInt64))) : va_E) = _
      congr 5
      funext k
      unfold vp_updL
      by_cases hk : k = i.toNatClampNeg <;> simp [hk]
    rw [WS9_set (M' := wr9 M (z + j) i.toNatClampNeg v) hj (fun b hb => wr9_ne hb) he] at hP1
    exact hP1
  · rw [if_neg h0] at hF
    cases hF
/-- System.arraycopy of ints -/
def cp9 (M : Mem9) (a0 sp a dp n : Nat) : Mem9 := fun b => if b = a then va_cpy (M a0) (M a) sp dp n else M b
abbrev okC9 (z a0 a : Nat) (sp dp n : Int32) : Prop := (z ≤ a0 ∧ a0 < z + 392 ∧ (kd9 (a0 - z)).1 = 10) ∧ (z ≤ a ∧ a < z + 392 ∧ (kd9 (a - z)).1 = 10) ∧ (¬ sp < 0 ∧ ¬ dp < 0 ∧ ¬ n < 0) ∧ sp.toNatClampNeg + n.toNatClampNeg ≤ (kd9 (a0 - z)).2 ∧ dp.toNatClampNeg + n.toNatClampNeg ≤ (kd9 (a - z)).2
def ac9 (z : Nat) (M : Mem9) (a0 : Nat) (sp : Int32) (a : Nat) (dp n : Int32) : Option Mem9 := if okC9 z a0 a sp dp n then some (cp9 M a0 sp.toNatClampNeg a dp.toNatClampNeg n.toNatClampNeg) else none
theorem j_copy {z : Nat} {N : Nv9} {X : Cx9} {out : Out9 × Mem9} {nL cm : Nat} {cc : ByteArray} {own : String} {d rk : Nat} {hh : List (Nat × Nat × Nat × Nat)} {pc : Nat} {ls : List (Nat × Value)} {st : List Value} {M : Mem9} {κ : Nat} {F : Re9} (C : OK9 z N X out nL cm cc own d rk hh) {idx a0 a : Nat} {sp dp n : Int32} {K : Mem9 → Re9} (hd : decode cc pc = .ok (.invokestatic idx, 3)) (w1 : Cond.methodLink own idx arraycopyName ∈ gw9) (w2 : Cond.native arraycopyName ∈ gw9) (w3 : Cond.static arraycopyName ∈ gw9) (w4 : Cond.initialized "java/lang/System" ∈ gw9) (hdd : 2 ≤ d) (hcat : (st.map fun v => v.category).sum ≤ 8) (kk : ∀ M', J9 z N X out nL (pc + 3) ls st M' κ (K M')) : J9 z N X out nL pc ls (.int n :: .int dp :: .ref a :: .int sp :: .ref a0 :: st) M κ ((ac9 z M a0 sp a dp n).bind K) := by
  obtain ⟨p, l, e, R, s, m, args, below, meth, c, QQ⟩ := X
  obtain ⟨hx, hb, hml, hown, hts, hE, ⟨r1, r2, -, -⟩, -⟩ := C
  obtain ⟨sb, L, xs, D, ca⟩ := N
  intro hF H locs lsA hP hS hl
  unfold ac9 at hF
  by_cases h0 : okC9 z a0 a sp dp n
  · rw [if_pos h0] at hF
    obtain ⟨h1, h2, ⟨n1, n2, n3⟩, h4, h5⟩ := h0
    obtain ⟨i, hi, rfl, hki⟩ := okO9.add (ci := 10) h1
    obtain ⟨j, hj, rfl, hkj⟩ := okO9.add (ci := 10) h2
    rw [Nat.add_sub_cancel_left] at h4 h5
    refine va_copyi (D := D) (c0 := ca 0) (c1 := ca 0) (f := M (z + i)) (g := M (z + j)) (ty := .int) hx hb (by rw [hml]; exact hl.1.symm) hown (hts _ w1) (hts _ w2) (hts _ w3) (hts _ w4) hE.1 hP (WS9_D z ca M) hS i j 0 0 (by rw [WS9_get hi, mk9_kd hki]; rfl) (by rw [WS9_get hj, mk9_kd hkj]; rfl) rfl rfl rfl n1 n2 n3 h4 h5 (fun _ _ => rfl) (by omega) ?_ hd (fun H1 locs1 hP1 hD1 hS1 => kk _ hF H1 locs1 lsA ?_ hS1 hl)
    · have h9 : nativeFrameWords "java/lang/System" "arraycopy" 5 ≤ 40 := by decide
      omega
    · rw [WS9_set (M' := cp9 M (z + i) sp.toNatClampNeg (z + j) dp.toNatClampNeg n.toNatClampNeg) hj (fun b hb => by unfold cp9; rw [if_neg hb]) (by unfold cp9; rw [if_pos rfl, mk9_kd hkj]; rfl)] at hP1
      exact hP1
  · rw [if_neg h0] at hF
    cases hF
theorem j_min {z : Nat} {N : Nv9} {X : Cx9} {out : Out9 × Mem9} {nL cm : Nat} {cc : ByteArray} {own : String} {d rk : Nat} {hh : List (Nat × Nat × Nat × Nat)} {pc : Nat} {ls : List (Nat × Value)} {st : List Value} {M : Mem9} {κ : Nat} {F : Re9} (C : OK9 z N X out nL cm cc own d rk hh) {idx : Nat} {x y : Int32} (hd : decode cc pc = .ok (.invokestatic idx, 3)) (w1 : Cond.methodLink own idx Lib.Math.min.name ∈ gw9) (w2 : Cond.static Lib.Math.min.name ∈ gw9) (w3 : Cond.initialized "java/lang/Math" ∈ gw9) (w4 : Cond.code Lib.Math.min.name Lib.Math.min.code 2 (some .int) ∈ gw9) (hdd : 1 ≤ d) (hcat : (st.map fun v => v.category).sum ≤ 8) (hκ : κ ≤ cm) (k : J9 z N X out nL (pc + 3) ls (.int (if y < x then y else x) :: st) M κ F) : J9 z N X out nL pc ls (.int y :: .int x :: st) M κ F := by
  obtain ⟨p, l, e, R, s, m, args, below, meth, c, QQ⟩ := X
  obtain ⟨hx, hb, hml, hown, hts, hE, ⟨r1, r2, r3, r4⟩, -⟩ := C
  intro hF H locs lsA hP hS hl
  exact va_mmin hx hb (by rw [hml]; exact hl.1.symm) hown (hts _ w1) (hts _ w2) (hts _ w3) (hts _ w4) (by omega) (by omega) (by omega) (by omega) hd (k hF H locs lsA hP hS hl)
theorem j_max {z : Nat} {N : Nv9} {X : Cx9} {out : Out9 × Mem9} {nL cm : Nat} {cc : ByteArray} {own : String} {d rk : Nat} {hh : List (Nat × Nat × Nat × Nat)} {pc : Nat} {ls : List (Nat × Value)} {st : List Value} {M : Mem9} {κ : Nat} {F : Re9} (C : OK9 z N X out nL cm cc own d rk hh) {idx : Nat} {x y : Int32} (hd : decode cc pc = .ok (.invokestatic idx, 3)) (w1 : Cond.methodLink own idx Lib.Math.max.name ∈ gw9) (w2 : Cond.static Lib.Math.max.name ∈ gw9) (w3 : Cond.initialized "java/lang/Math" ∈ gw9) (w4 : Cond.code Lib.Math.max.name Lib.Math.max.code 2 (some .int) ∈ gw9) (hdd : 1 ≤ d) (hcat : (st.map fun v => v.category).sum ≤ 8) (hκ : κ ≤ cm) (k : J9 z N X out nL (pc + 3) ls (.int (if x < y then y else x) :: st) M κ F) : J9 z N X out nL pc ls (.int y :: .int x :: st) M κ F := by
  obtain ⟨p, l, e, R, s, m, args, below, meth, c, QQ⟩ := X
  obtain ⟨hx, hb, hml, hown, hts, hE, ⟨r1, r2, r3, r4⟩, -⟩ := C
  intro hF H locs lsA hP hS hl
  exact va_mmax hx hb (by rw [hml]; exact hl.1.symm) hown (hts _ w1) (hts _ w2) (hts _ w3) (hts _ w4) (by omega) (by omega) (by omega) (by omega) hd (k hF H locs lsA hP hS hl)
/-! ===== ends ===== -/
theorem j_ireturn {z : Nat} {N : Nv9} {X : Cx9} {out : Out9 × Mem9} {nL cm : Nat} {cc : ByteArray} {own : String} {d rk : Nat} {hh : List (Nat × Nat × Nat × Nat)} {pc : Nat} {ls : List (Nat × Value)} {st : List Value} {M : Mem9} {κ : Nat} {F : Re9} (C : OK9 z N X out nL cm cc own d rk hh) {v : Int32} (hrk : rk = 1) (hd : decode cc pc = .ok (.ireturn, 1)) (hκ : κ ≤ cm) : J9 z N X out nL pc ls [.int v] M κ (ri9 v M) := by
  obtain ⟨p, l, e, R, s, m, args, below, meth, c, QQ⟩ := X
  obtain ⟨hx, hb, hml, hown, hts, hE, hr, hst, htb, hret, -⟩ := C
  intro hF H locs lsA hP hS hl
  exact hret (some (.int v)) .ireturn pc M κ H locs lsA (Or.inr (Or.inl ⟨hrk, ⟨v, rfl⟩, rfl⟩)) hd (Option.some.inj hF).symm hκ hP hS
theorem j_zreturn {z : Nat} {N : Nv9} {X : Cx9} {out : Out9 × Mem9} {nL cm : Nat} {cc : ByteArray} {own : String} {d rk : Nat} {hh : List (Nat × Nat × Nat × Nat)} {pc : Nat} {ls : List (Nat × Value)} {st : List Value} {M : Mem9} {κ : Nat} {F : Re9} (C : OK9 z N X out nL cm cc own d rk hh) {v : Int32} (hrk : rk = 2) (hd : decode cc pc = .ok (.ireturn, 1)) (hκ : κ ≤ cm) : J9 z N X out nL pc ls [.int v] M κ (rz9 v M) := by
  obtain ⟨p, l, e, R, s, m, args, below, meth, c, QQ⟩ := X
  obtain ⟨hx, hb, hml, hown, hts, hE, hr, hst, htb, hret, -⟩ := C
  intro hF H locs lsA hP hS hl
  unfold rz9 at hF
  by_cases h0 : b9 v
  · rw [if_pos h0] at hF
    exact hret (some (.int v)) .ireturn pc M κ H locs lsA (Or.inr (Or.inr (Or.inl ⟨hrk, ⟨v, h0, rfl⟩, rfl⟩))) hd (Option.some.inj hF).symm hκ hP hS
  · rw [if_neg h0] at hF
    cases hF
theorem j_lreturn {z : Nat} {N : Nv9} {X : Cx9} {out : Out9 × Mem9} {nL cm : Nat} {cc : ByteArray} {own : String} {d rk : Nat} {hh : List (Nat × Nat × Nat × Nat)} {pc : Nat} {ls : List (Nat × Value)} {st : List Value} {M : Mem9} {κ : Nat} {F : Re9} (C : OK9 z N X out nL cm cc own d rk hh) {v : Int64} (hrk : rk = 3) (hd : decode cc pc = .ok (.lreturn, 1)) (hκ : κ ≤ cm) : J9 z N X out nL pc ls [.long v] M κ (rj9 v M) := by
  obtain ⟨p, l, e, R, s, m, args, below, meth, c, QQ⟩ := X
  obtain ⟨hx, hb, hml, hown, hts, hE, hr, hst, htb, hret, -⟩ := C
  intro hF H locs lsA hP hS hl
  exact hret (some (.long v)) .lreturn pc M κ H locs lsA (Or.inr (Or.inr (Or.inr ⟨hrk, ⟨v, rfl⟩, rfl⟩))) hd (Option.some.inj hF).symm hκ hP hS
theorem j_return {z : Nat} {N : Nv9} {X : Cx9} {out : Out9 × Mem9} {nL cm : Nat} {cc : ByteArray} {own : String} {d rk : Nat} {hh : List (Nat × Nat × Nat × Nat)} {pc : Nat} {ls : List (Nat × Value)} {st : List Value} {M : Mem9} {κ : Nat} {F : Re9} (C : OK9 z N X out nL cm cc own d rk hh) (hrk : rk = 0) (hd : decode cc pc = .ok (.return_, 1)) (hκ : κ ≤ cm) : J9 z N X out nL pc ls [] M κ (rv9 M) := by
  obtain ⟨p, l, e, R, s, m, args, below, meth, c, QQ⟩ := X
  obtain ⟨hx, hb, hml, hown, hts, hE, hr, hst, htb, hret, -⟩ := C
  intro hF H locs lsA hP hS hl
  exact hret none .return_ pc M κ H locs lsA (Or.inl ⟨hrk, rfl, rfl⟩) hd (Option.some.inj hF).symm hκ hP hS
theorem j_throw {z : Nat} {N : Nv9} {X : Cx9} {out : Out9 × Mem9} {nL cm : Nat} {cc : ByteArray} {own : String} {d rk : Nat} {hh : List (Nat × Nat × Nat × Nat)} {pc : Nat} {ls : List (Nat × Value)} {st : List Value} {M : Mem9} {κ : Nat} {F : Re9} (C : OK9 z N X out nL cm cc own d rk hh) {E : String} (hh0 : hh = []) (hd : TH9 own cc pc E) (hdd : 6 ≤ d) (hcat : (st.map fun v => v.category).sum ≤ 8) (hκ : κ = 0) (hcm : co9 out.1 ≤ cm) : J9 z N X out nL pc ls st M κ (tx9 E M) := by
  obtain ⟨p, l, e, R, s, m, args, below, meth, c, QQ⟩ := X
  obtain ⟨hx, hb, hml, hown, hts, hE, hr, hst, htb, hret, hthrown, hthrow⟩ := C
  intro hF H locs lsA hP hS hl
  subst hκ
  have ho : out = (.inr E, M) := (Option.some.inj hF).symm
  refine hthrow hh0 E pc M 0 H locs lsA st hd hl.1 hdd hcat ho ?_ hP hS
  rw [ho] at hcm
  exact hcm
/-! ===== calls ===== -/
theorem mk9_obj {ca : Nat → ClassId} {a : Nat} {m : Nat → Int32} {n ci : Nat} (h : ci ≤ 3) : ∃ fs, mk9 ca a m (ci, n) = .inr (ci, fs) := by
  match ci, h with
  | 0, _ => exact ⟨_, rfl⟩
  | 1, _ => exact ⟨_, rfl⟩
  | 2, _ => exact ⟨_, rfl⟩
  | 3, _ => exact ⟨_, rfl⟩
theorem call9 {z : Nat} {N : Nv9} {p : Program} {l : Launch} {e : Env} {R : Room} {s : State} {m : MethodId} {args : Array Value} {below : List Frame} {meth : Method} {c : Code} {QQ : State → Prop} {pc : Nat} {st rest : List Value} {κ mc : Nat} {H : Heap} {locs : List Loc} {lsA : Array Slot} {o : Out9 × Mem9} {a : Array Value} (hr : vx_Run p l e R s m args below meth c H locs κ (6 * κ) mc (6 * mc) (F0 m pc lsA st) rest (Qc9 z N o a) (XC9 z N o) (A9 z)) (hS : va_S (A9 z) s.heap H locs)
    (kN : ∀ (v : Option Value) (M' : Mem9) (H1 : Heap) (locs1 : List Loc), o = (.inl v, M') → PM9 z N M' H1 → va_S (A9 z) s.heap H1 locs1 → W p l e R s m args below meth c H1 locs1 (κ + mc) (6 * (κ + mc)) QQ (F0 m (pc + 3) lsA (v.toList ++ rest)))
    (kX : ∀ (E : String) (M' : Mem9) (H1 : Heap) (locs1 : List Loc) (q : Addr) (ce : Cell), E ∈ excs9 → o = (.inr E, M') → PM9 z N M' H1 → va_S (A9 z) s.heap H1 locs1 → H1[q]? = some ce → ce.vm = .none → s.vm.findClass E = some ce.cls → vx_W p l e R s m args below meth c H1 locs1 (κ + mc) (6 * (κ + mc)) QQ (F0 m pc lsA rest) q) : W p l e R s m args below meth c H locs κ (6 * κ) QQ (F0 m pc lsA st) := by
  intro T hT X
  have h6 : 6 * κ + 6 * mc = 6 * (κ + mc) := by omega
  rcases hr T hT X with ⟨v, st₀, t, T', L, h0, X', hL, e1, e2, ⟨⟨v', hv, ho, hPM⟩, hF⟩, stp⟩ | ⟨q, st₀, t, T', L, E, ce, h0, X', hL, e1, e2, ⟨⟨hE, ho, hPM⟩, hF⟩, hce, hcv, hcl, stp⟩
  · cases hv
    obtain ⟨k1, k2, k3⟩ := vx_keep h0 e1 hS (fun q _ h => h) (fun q h => h) hL hF
    rw [h6] at X'
    obtain ⟨t2, a1, b1⟩ := kN v o.2 T'.heap (locs ++ L) (by rw [← ho]) (by rw [e1]; exact hPM) k3 T' rfl X'
    exact ⟨t2, stp t2 a1, b1⟩
  · obtain ⟨k1, k2, k3⟩ := vx_keep h0 e1 hS (fun q _ h => h) (fun q h => h) hL hF
    rw [h6] at X'
    obtain ⟨t2, a1, b1⟩ := kX E o.2 T'.heap (locs ++ L) q ce hE (by rw [← ho]) (by rw [e1]; exact hPM) k3 (by rw [e1]; exact hce) hcv hcl T' rfl X'
    exact ⟨t2, stp.trans a1, b1⟩
/-- a virtual call's words: of the class at place ci -/
def LV9 (own : String) (idx ci : Nat) (y : MethodName) (yc : ByteArray) (maxL : Nat) (ret : Option FieldType) (n : Nat) : Prop := ci ≤ 3 ∧ (∃ (T : u_T) (Nf : Nat), vwCl[ci]? = some (y.cls, T, Nf)) ∧ Cond.methodLink own idx y ∈ gw9 ∧ Cond.instanceMethod y ∈ gw9 ∧ Cond.selects y.cls y y ∈ gw9 ∧ Cond.initialized y.cls ∈ gw9 ∧ Cond.code y yc maxL ret ∈ gw9 ∧ (y.cls ≠ "java/lang/invoke/MethodHandle" ∧ y.cls ≠ "java/lang/invoke/VarHandle" ∧ (parseMethodDescriptor y.desc).map (fun d => d.parameters.length) = some n) ∧ maxL ≤ 13
def LS9 (own : String) (idx : Nat) (y : MethodName) (yc : ByteArray) (maxL : Nat) (ret : Option FieldType) (n : Nat) : Prop := y.cls = own ∧ Cond.methodLink own idx y ∈ gw9 ∧ Cond.static y ∈ gw9 ∧ Cond.initialized own ∈ gw9 ∧ Cond.code y yc maxL ret ∈ gw9 ∧ (y.cls ≠ "java/lang/invoke/MethodHandle" ∧ y.cls ≠ "java/lang/invoke/VarHandle" ∧ (parseMethodDescriptor y.desc).map (fun d => d.parameters.length) = some n) ∧ maxL ≤ 13
/-- of another class -/
def LO9 (own : String) (idx : Nat) (y : MethodName) (yc : ByteArray) (maxL : Nat) (ret : Option FieldType) (n : Nat) : Prop := Cond.methodLink own idx y ∈ gw9 ∧ Cond.static y ∈ gw9 ∧ Cond.initialized y.cls ∈ gw9 ∧ Cond.code y yc maxL ret ∈ gw9 ∧ (y.cls ≠ "java/lang/invoke/MethodHandle" ∧ y.cls ≠ "java/lang/invoke/VarHandle" ∧ (parseMethodDescriptor y.desc).map (fun d => d.parameters.length) = some n) ∧ maxL ≤ 13
def LW9 (own : String) (idx : Nat) (y : MethodName) (yc : ByteArray) (maxL : Nat) (ret : Option FieldType) (hw : List (Nat × Nat × Nat × Nat)) (n : Nat) : Prop := Cond.methodLink own idx y ∈ gw9 ∧ Cond.static y ∈ gw9 ∧ Cond.initialized y.cls ∈ gw9 ∧ Cond.codeWith y yc maxL ret hw ∈ gw9 ∧ (y.cls ≠ "java/lang/invoke/MethodHandle" ∧ y.cls ≠ "java/lang/invoke/VarHandle" ∧ (parseMethodDescriptor y.desc).map (fun d => d.parameters.length) = some n) ∧ maxL ≤ 13
theorem gw9_good : ∀ w ∈ gw9, w ∈ gw9 ∧ ((w.onTables && w.keeps) = true ∨ ∃ ty, w = .arrayClass ty) := fun w hw => ⟨hw, good_of_word (List.mem_filter.mp hw).2⟩
theorem good9 {L : List Cond} (h : ∀ w ∈ L, w ∈ gw9) : GoodIn gw9 L := fun w hw => gw9_good w (h w hw)
theorem pre9 {z : Nat} {N : Nv9} {s : State} {H : Heap} {locs : List Loc} {M : Mem9} {av : List Value} (hE : EV9 z N s) (hS : va_S (A9 z) s.heap H locs) (hP : PM9 z N M H) : ∀ U : State, U.heap = H → s.WarmedH U.vm → Pc9 z N av M av.toArray U := fun U hU hW => ⟨rfl, hE.go hW (by rw [hU]; exact hS), by rw [hU]; exact hP⟩
/-- a virtual call: its words, its callee, what stands on the stack, the room; then the two ways on -/
theorem runV9 {z : Nat} {N : Nv9} {out : Out9 × Mem9} {nL cm : Nat} {cc : ByteArray} {own : String} {d rk : Nat} {hh : List (Nat × Nat × Nat × Nat)} {pc : Nat} {ls : List (Nat × Value)} {st : List Value} {M : Mem9} {κ : Nat} {p : Program} {l : Launch} {e : Env} {R : Room} {s : State} {m : MethodId} {args : Array Value} {below : List Frame} {meth : Method} {c : Code} {QQ : State → Prop} (C : OK9 z N (p, l, e, R, s, m, args, below, meth, c, QQ) out nL cm cc own d rk hh) {idx ci n d' maxL b mc : Nat} {y : MethodName} {yc : ByteArray} {ret : Option FieldType} {rest : List Value} {H : Heap} {locs : List Loc} {lsA : Array Slot} {o : Out9 × Mem9}
    (hd : decode cc pc = .ok (.invokevirtual idx, 3)) (hl : LV9 own idx ci y yc maxL ret n) (hst : st.drop n = .ref b :: rest) (hn : n ≤ st.length) (hcat : (rest.map fun v => v.category).sum ≤ 8) (hdd : d' + 1 ≤ d) (hsp : Sp9 l z N y (Cond.code y yc maxL ret) d' (.ref b :: (st.take n).reverse) M mc o) (hb9 : okO9 z b ci) (hκ : κ + mc ≤ cm) (hP : PM9 z N M H) (hS : va_S (A9 z) s.heap H locs) (hls : lv_has lsA nL ls) :
    vx_Run p l e R s m args below meth c H locs κ (6 * κ) mc (6 * mc) (F0 m pc lsA st) rest (Qc9 z N o (Value.ref b :: (st.take n).reverse).toArray) (XC9 z N o) (A9 z) := by
  obtain ⟨hx, hb, hml, hown, hts, hE, ⟨r1, r2, r3, r4⟩, -⟩ := C
  obtain ⟨c0, ⟨T9, Nf9, c1⟩, c2, c3, c4, c5, c6, c7, c8⟩ := hl
  have hG : GoodIn gw9 (wsV own idx y.cls y (Cond.code y yc maxL ret :: gw9)) := by
    refine good9 (fun w hw => ?_)
    simp only [wsV, List.cons_append, List.nil_append, List.mem_cons] at hw
    rcases hw with rfl | rfl | rfl | rfl | rfl | hw
    · exact c2
    · exact c3
    · exact c4
    · exact c5
    · exact c6
    · exact hw
  have hrecv : ∃ cellB : Cell, H[b]? = some cellB ∧ cellB.vm.isStatics = false ∧ s.vm.findClass y.cls = some cellB.cls := by
    obtain ⟨sb, L, xs, D, ca⟩ := N
    obtain ⟨i, hi, rfl, hkd⟩ := hb9.add
    obtain ⟨fs, hfs⟩ := mk9_obj (ca := ca) (a := z + i) (m := M (z + i)) (n := (kd9 i).2) c0
    exact va_recv hE.1 hP c1 (q0 := i) (fs := fs) (by rw [WS9_get hi, mk9_kd hkd, hfs])
  refine vx_runV (own := own) (Ts := gw9) (As := (st.take n).reverse) (b := b) (C := y.cls) (n := n) ⟨hx, hb, hml, hown, hts⟩ hsp (cwV n hts hG rfl rfl rfl ⟨rfl, c7⟩ ⟨by show d' + 1 ≤ R.frames; omega, by show 8 + (maxL + 11) + 32 * d' ≤ R.locals; omega⟩) ⟨Pc9_blind, hrecv, pre9 hE hS hP⟩ rfl (by rw [List.length_reverse, List.length_take]; omega) hls.1 ?_ (lv_room hcat) hd ⟨by omega, by omega⟩
  show st = (st.take n).reverse.reverse ++ .ref b :: rest
  rw [List.reverse_reverse, ← hst, List.take_append_drop]
theorem runS9 {z : Nat} {N : Nv9} {out : Out9 × Mem9} {nL cm : Nat} {cc : ByteArray} {own : String} {d rk : Nat} {hh : List (Nat × Nat × Nat × Nat)} {pc : Nat} {ls : List (Nat × Value)} {st : List Value} {M : Mem9} {κ : Nat} {p : Program} {l : Launch} {e : Env} {R : Room} {s : State} {m : MethodId} {args : Array Value} {below : List Frame} {meth : Method} {c : Code} {QQ : State → Prop} (C : OK9 z N (p, l, e, R, s, m, args, below, meth, c, QQ) out nL cm cc own d rk hh) {idx n d' maxL mc : Nat} {y : MethodName} {yc : ByteArray} {ret : Option FieldType} {rest : List Value} {H : Heap} {locs : List Loc} {lsA : Array Slot} {o : Out9 × Mem9}
    (hd : decode cc pc = .ok (.invokestatic idx, 3)) (hl : LO9 own idx y yc maxL ret n) (hst : st.drop n = rest) (hn : n ≤ st.length) (hcat : (rest.map fun v => v.category).sum ≤ 8) (hdd : d' + 1 ≤ d) (hsp : Sp9 l z N y (Cond.code y yc maxL ret) d' (st.take n).reverse M mc o) (hκ : κ + mc ≤ cm) (hP : PM9 z N M H) (hS : va_S (A9 z) s.heap H locs) (hls : lv_has lsA nL ls) :
    vx_Run p l e R s m args below meth c H locs κ (6 * κ) mc (6 * mc) (F0 m pc lsA st) rest (Qc9 z N o (st.take n).reverse.toArray) (XC9 z N o) (A9 z) := by
  obtain ⟨hx, hb, hml, hown, hts, hE, ⟨r1, r2, r3, r4⟩, -⟩ := C
  obtain ⟨c2, c3, c5, c6, c7, c8⟩ := hl
  have hG : GoodIn gw9 (Cond.code y yc maxL ret :: gw9) := by
    refine good9 (fun w hw => ?_)
    rcases List.mem_cons.mp hw with rfl | hw
    · exact c6
    · exact hw
  refine vx_runS (own := own) (Ts := gw9) (As := (st.take n).reverse) (n := n) ⟨hx, hb, hml, hown, hts⟩ hsp ⟨callB_of n hts hG rfl rfl rfl (hts _ c5) (hts _ c2) c7 ⟨by show d' + 1 ≤ R.frames; omega, by show 8 + (maxL + 11) + 32 * d' ≤ R.locals; omega⟩, hts _ c3⟩ ⟨Pc9_blind, pre9 hE hS hP⟩ rfl (by rw [List.length_reverse, List.length_take]; omega) hls.1 ?_ (lv_room hcat) hd ⟨by omega, by omega⟩
  show st = (st.take n).reverse.reverse ++ rest
  rw [List.reverse_reverse, ← hst, List.take_append_drop]
theorem runW9 {z : Nat} {N : Nv9} {out : Out9 × Mem9} {nL cm : Nat} {cc : ByteArray} {own : String} {d rk : Nat} {hh : List (Nat × Nat × Nat × Nat)} {pc : Nat} {ls : List (Nat × Value)} {st : List Value} {M : Mem9} {κ : Nat} {p : Program} {l : Launch} {e : Env} {R : Room} {s : State} {m : MethodId} {args : Array Value} {below : List Frame} {meth : Method} {c : Code} {QQ : State → Prop} (C : OK9 z N (p, l, e, R, s, m, args, below, meth, c, QQ) out nL cm cc own d rk hh) {idx n d' maxL mc : Nat} {y : MethodName} {yc : ByteArray} {ret : Option FieldType} {hw : List (Nat × Nat × Nat × Nat)} {rest : List Value} {H : Heap} {locs : List Loc} {lsA : Array Slot} {o : Out9 × Mem9}
    (hd : decode cc pc = .ok (.invokestatic idx, 3)) (hl : LW9 own idx y yc maxL ret hw n) (hst : st.drop n = rest) (hn : n ≤ st.length) (hcat : (rest.map fun v => v.category).sum ≤ 8) (hdd : d' + 1 ≤ d) (hsp : Sp9 l z N y (Cond.codeWith y yc maxL ret hw) d' (st.take n).reverse M mc o) (hκ : κ + mc ≤ cm) (hP : PM9 z N M H) (hS : va_S (A9 z) s.heap H locs) (hls : lv_has lsA nL ls) :
    vx_Run p l e R s m args below meth c H locs κ (6 * κ) mc (6 * mc) (F0 m pc lsA st) rest (Qc9 z N o (st.take n).reverse.toArray) (XC9 z N o) (A9 z) := by
  obtain ⟨hx, hb, hml, hown, hts, hE, ⟨r1, r2, r3, r4⟩, -⟩ := C
  obtain ⟨c2, c3, c5, c6, c7, c8⟩ := hl
  have hG : GoodIn gw9 (va_wsS own idx y (Cond.codeWith y yc maxL ret hw :: gw9)) := by
    refine good9 (fun w hw => ?_)
    simp only [va_wsS, List.cons_append, List.nil_append, List.mem_cons] at hw
    rcases hw with rfl | rfl | rfl | rfl | hw
    · exact c2
    · exact c3
    · exact c5
    · exact c6
    · exact hw
  refine vx_runSX (own := own) (Ts := gw9) (As := (st.take n).reverse) (n := n) ⟨hx, hb, hml, hown, hts⟩ hsp (vx_cwSW n hts hG rfl rfl rfl c7 ⟨by show d' + 1 ≤ R.frames; omega, by show 8 + (maxL + 11) + 32 * d' ≤ R.locals; omega⟩) ⟨Pc9_blind, pre9 hE hS hP⟩ rfl (by rw [List.length_reverse, List.length_take]; omega) hls.1 ?_ (lv_room hcat) hd ⟨by omega, by omega⟩
  show st = (st.take n).reverse.reverse ++ rest
  rw [List.reverse_reverse, ← hst, List.take_append_drop]
end
section
/-! ===== calls, as rows of the judgement ===== -/
theorem k9 {κ cm : Nat} {o : Out9} {out : Out9 × Mem9} (hκ : κ = 0 ∨ κ + 1 ≤ cm) (hcm : co9 out.1 ≤ cm) (h : ∀ E, o = .inr E → out.1 = .inr E) : κ + co9 o ≤ cm := by
  cases o with
  | inl v => show κ + 0 ≤ cm; omega
  | inr E =>
    have h1 := h E rfl
    rw [h1] at hcm
    have h2 : 1 ≤ cm := hcm
    show κ + 1 ≤ cm
    omega
theorem j_call0 {z : Nat} {N : Nv9} {out : Out9 × Mem9} {nL cm : Nat} {cc : ByteArray} {own : String} {d rk : Nat} {hh : List (Nat × Nat × Nat × Nat)} {pc : Nat} {ls : List (Nat × Value)} {st : List Value} {κ : Nat} {p : Program} {l : Launch} {e : Env} {R : Room} {s : State} {m : MethodId} {args : Array Value} {below : List Frame} {meth : Method} {c : Code} {QQ : State → Prop} (C : OK9 z N (p, l, e, R, s, m, args, below, meth, c, QQ) out nL cm cc own d rk hh) (hh0 : hh = []) {rest : List Value} {mc : Nat} {H : Heap} {locs : List Loc} {lsA : Array Slot} {o : Out9 × Mem9} {a : Array Value} {κ' : Nat}
    (hr : vx_Run p l e R s m args below meth c H locs κ (6 * κ) mc (6 * mc) (F0 m pc lsA st) rest (Qc9 z N o a) (XC9 z N o) (A9 z)) (hS : va_S (A9 z) s.heap H locs) (hl : lv_has lsA nL ls) (hκ : κ + mc ≤ cm) (hmc : ∀ v, o.1 = .inl v → κ + mc = κ')
    (hN : ∀ v M', o = (.inl v, M') → ∃ F', F' = some out ∧ J9 z N (p, l, e, R, s, m, args, below, meth, c, QQ) out nL (pc + 3) ls (v.toList ++ rest) M' κ' F') (hX : ∀ E M', o = (.inr E, M') → out = (.inr E, M')) : W p l e R s m args below meth c H locs κ (6 * κ) QQ (F0 m pc lsA st) := by
  refine call9 hr hS (fun v M' H1 locs1 ho hP1 hS1 => ?_) (fun E M' H1 locs1 q ce hE ho hP1 hS1 hq hv hc => ?_)
  · obtain ⟨F', hF', hJ⟩ := hN v M' ho
    rw [hmc v (by rw [ho])]
    exact hJ hF' H1 locs1 lsA hP1 hS1 hl
  · obtain ⟨-, -, -, -, -, -, -, -, -, -, hthrown, -⟩ := C
    exact hthrown hh0 E q ce pc M' (κ + mc) H1 locs1 lsA rest hE (hX E M' ho) hκ hq hv hc hP1 hS1
theorem bi9_inv {r : Re9} {K : Int32 → Mem9 → Re9} {out : Out9 × Mem9} (h : bi9 r K = some out) : (∃ v M', r = some (.inl (some (.int v)), M') ∧ K v M' = some out) ∨ ∃ E M', r = some (.inr E, M') ∧ out = (.inr E, M') := by
  unfold bi9 at h
  split at h
  · exact Or.inl ⟨_, _, rfl, h⟩
  · exact Or.inr ⟨_, _, rfl, (Option.some.inj h).symm⟩
  · cases h
theorem bl9_inv {r : Re9} {K : Int64 → Mem9 → Re9} {out : Out9 × Mem9} (h : bl9 r K = some out) : (∃ v M', r = some (.inl (some (.long v)), M') ∧ K v M' = some out) ∨ ∃ E M', r = some (.inr E, M') ∧ out = (.inr E, M') := by
  unfold bl9 at h
  split at h
  · exact Or.inl ⟨_, _, rfl, h⟩
  · exact Or.inr ⟨_, _, rfl, (Option.some.inj h).symm⟩
  · cases h
theorem bv9_inv {r : Re9} {K : Mem9 → Re9} {out : Out9 × Mem9} (h : bv9 r K = some out) : (∃ M', r = some (.inl none, M') ∧ K M' = some out) ∨ ∃ E M', r = some (.inr E, M') ∧ out = (.inr E, M') := by
  unfold bv9 at h
  split at h
  · exact Or.inl ⟨_, rfl, h⟩
  · exact Or.inr ⟨_, _, rfl, (Option.some.inj h).symm⟩
  · cases h
theorem bh9_inv {r : Re9} {K : Int32 → Mem9 → Re9} {XX : String → Mem9 → Re9} {out : Out9 × Mem9} (h : bh9 r K XX = some out) : (∃ v M', r = some (.inl (some (.int v)), M') ∧ K v M' = some out) ∨ ∃ E M', r = some (.inr E, M') ∧ XX E M' = some out := by
  unfold bh9 at h
  split at h
  · exact Or.inl ⟨_, _, rfl, h⟩
  · exact Or.inr ⟨_, _, rfl, h⟩
  · cases h
theorem iv9_inv {z b ci : Nat} {r : Re9} {o : Out9 × Mem9} (h : iv9 z b ci r = some o) : okO9 z b ci ∧ r = some o := by
  unfold iv9 at h
  by_cases h0 : okO9 z b ci
  · rw [if_pos h0] at h
    exact ⟨h0, h⟩
  · rw [if_neg h0] at h
    cases h
theorem j_callVi {z : Nat} {N : Nv9} {X : Cx9} {out : Out9 × Mem9} {nL cm : Nat} {cc : ByteArray} {own : String} {d rk : Nat} {hh : List (Nat × Nat × Nat × Nat)} {pc : Nat} {ls : List (Nat × Value)} {st : List Value} {M : Mem9} {κ : Nat} {F : Re9} (C : OK9 z N X out nL cm cc own d rk hh) (hh0 : hh = []) {idx ci n d' maxL b : Nat} {y : MethodName} {yc : ByteArray} {ret : Option FieldType} {rest : List Value} {r : Re9} {K : Int32 → Mem9 → Re9}
    (hd : decode cc pc = .ok (.invokevirtual idx, 3)) (hl : LV9 own idx ci y yc maxL ret n) (hst : st.drop n = .ref b :: rest) (hn : n ≤ st.length) (hcat : (rest.map fun v => v.category).sum ≤ 8) (hdd : d' + 1 ≤ d) (hκ : κ = 0 ∨ κ + 1 ≤ cm) (hcm : co9 out.1 ≤ cm) (hsp : ∀ l : Launch, l.stackTraces = false → ∀ o, r = some o → Sp9 l z N y (Cond.code y yc maxL ret) d' (.ref b :: (st.take n).reverse) M (co9 o.1) o)
    (hk : ∀ v M', J9 z N X out nL (pc + 3) ls (.int v :: rest) M' (κ) (K v M')) : J9 z N X out nL pc ls st M κ (bi9 (iv9 z b ci r) K) := by
  obtain ⟨p, l, e, R, s, m, args, below, meth, c, QQ⟩ := X
  intro hF H locs lsA hP hS hls
  have hl9 : l.stackTraces = false := C.2.2.2.2.2.2.2.1
  rcases bi9_inv hF with ⟨v, M', h1, h2⟩ | ⟨E, M', h1, rfl⟩
  · obtain ⟨h0, h1⟩ := iv9_inv h1
    refine j_call0 C hh0 (κ' := κ) (runV9 C hd hl hst hn hcat hdd (hsp l hl9 _ h1) h0 (k9 hκ hcm (fun E h => by cases h)) hP hS hls) hS hls (k9 hκ hcm (fun E h => by cases h)) (fun _ _ => rfl) (fun v' M'' ho => ?_) (fun E M'' ho => by cases ho)
    cases ho
    exact ⟨_, h2, hk v M'⟩
  · obtain ⟨h0, h1⟩ := iv9_inv h1
    refine j_call0 C hh0 (κ' := κ) (runV9 C hd hl hst hn hcat hdd (hsp l hl9 _ h1) h0 (k9 hκ hcm (fun E9 h => by cases h; rfl)) hP hS hls) hS hls (k9 hκ hcm (fun E9 h => by cases h; rfl)) (fun v h => by cases h) (fun v' M'' ho => by cases ho) (fun E M'' ho => by cases ho; rfl)

theorem j_callVl {z : Nat} {N : Nv9} {X : Cx9} {out : Out9 × Mem9} {nL cm : Nat} {cc : ByteArray} {own : String} {d rk : Nat} {hh : List (Nat × Nat × Nat × Nat)} {pc : Nat} {ls : List (Nat × Value)} {st : List Value} {M : Mem9} {κ : Nat} {F : Re9} (C : OK9 z N X out nL cm cc own d rk hh) (hh0 : hh = []) {idx ci n d' maxL b : Nat} {y : MethodName} {yc : ByteArray} {ret : Option FieldType} {rest : List Value} {r : Re9} {K : Int64 → Mem9 → Re9}
    (hd : decode cc pc = .ok (.invokevirtual idx, 3)) (hl : LV9 own idx ci y yc maxL ret n) (hst : st.drop n = .ref b :: rest) (hn : n ≤ st.length) (hcat : (rest.map fun v => v.category).sum ≤ 8) (hdd : d' + 1 ≤ d) (hκ : κ = 0 ∨ κ + 1 ≤ cm) (hcm : co9 out.1 ≤ cm) (hsp : ∀ l : Launch, l.stackTraces = false → ∀ o, r = some o → Sp9 l z N y (Cond.code y yc maxL ret) d' (.ref b :: (st.take n).reverse) M (co9 o.1) o)
    (hk : ∀ v M', J9 z N X out nL (pc + 3) ls (.long v :: rest) M' (κ) (K v M')) : J9 z N X out nL pc ls st M κ (bl9 (iv9 z b ci r) K) := by
  obtain ⟨p, l, e, R, s, m, args, below, meth, c, QQ⟩ := X
  intro hF H locs lsA hP hS hls
  have hl9 : l.stackTraces = false := C.2.2.2.2.2.2.2.1
  rcases bl9_inv hF with ⟨v, M', h1, h2⟩ | ⟨E, M', h1, rfl⟩
  · obtain ⟨h0, h1⟩ := iv9_inv h1
    refine j_call0 C hh0 (κ' := κ) (runV9 C hd hl hst hn hcat hdd (hsp l hl9 _ h1) h0 (k9 hκ hcm (fun E h => by cases h)) hP hS hls) hS hls (k9 hκ hcm (fun E h => by cases h)) (fun _ _ => rfl) (fun v' M'' ho => ?_) (fun E M'' ho => by cases ho)
    cases ho
    exact ⟨_, h2, hk v M'⟩
  · obtain ⟨h0, h1⟩ := iv9_inv h1
    refine j_call0 C hh0 (κ' := κ) (runV9 C hd hl hst hn hcat hdd (hsp l hl9 _ h1) h0 (k9 hκ hcm (fun E9 h => by cases h; rfl)) hP hS hls) hS hls (k9 hκ hcm (fun E9 h => by cases h; rfl)) (fun v h => by cases h) (fun v' M'' ho => by cases ho) (fun E M'' ho => by cases ho; rfl)

theorem j_callVv {z : Nat} {N : Nv9} {X : Cx9} {out : Out9 × Mem9} {nL cm : Nat} {cc : ByteArray} {own : String} {d rk : Nat} {hh : List (Nat × Nat × Nat × Nat)} {pc : Nat} {ls : List (Nat × Value)} {st : List Value} {M : Mem9} {κ : Nat} {F : Re9} (C : OK9 z N X out nL cm cc own d rk hh) (hh0 : hh = []) {idx ci n d' maxL b : Nat} {y : MethodName} {yc : ByteArray} {ret : Option FieldType} {rest : List Value} {r : Re9} {K : Mem9 → Re9}
    (hd : decode cc pc = .ok (.invokevirtual idx, 3)) (hl : LV9 own idx ci y yc maxL ret n) (hst : st.drop n = .ref b :: rest) (hn : n ≤ st.length) (hcat : (rest.map fun v => v.category).sum ≤ 8) (hdd : d' + 1 ≤ d) (hκ : κ = 0 ∨ κ + 1 ≤ cm) (hcm : co9 out.1 ≤ cm) (hsp : ∀ l : Launch, l.stackTraces = false → ∀ o, r = some o → Sp9 l z N y (Cond.code y yc maxL ret) d' (.ref b :: (st.take n).reverse) M (co9 o.1) o)
    (hk : ∀ M', J9 z N X out nL (pc + 3) ls (rest) M' (κ) (K M')) : J9 z N X out nL pc ls st M κ (bv9 (iv9 z b ci r) K) := by
  obtain ⟨p, l, e, R, s, m, args, below, meth, c, QQ⟩ := X
  intro hF H locs lsA hP hS hls
  have hl9 : l.stackTraces = false := C.2.2.2.2.2.2.2.1
  rcases bv9_inv hF with ⟨M', h1, h2⟩ | ⟨E, M', h1, rfl⟩
  · obtain ⟨h0, h1⟩ := iv9_inv h1
    refine j_call0 C hh0 (κ' := κ) (runV9 C hd hl hst hn hcat hdd (hsp l hl9 _ h1) h0 (k9 hκ hcm (fun E h => by cases h)) hP hS hls) hS hls (k9 hκ hcm (fun E h => by cases h)) (fun _ _ => rfl) (fun v' M'' ho => ?_) (fun E M'' ho => by cases ho)
    cases ho
    exact ⟨_, h2, hk M'⟩
  · obtain ⟨h0, h1⟩ := iv9_inv h1
    refine j_call0 C hh0 (κ' := κ) (runV9 C hd hl hst hn hcat hdd (hsp l hl9 _ h1) h0 (k9 hκ hcm (fun E9 h => by cases h; rfl)) hP hS hls) hS hls (k9 hκ hcm (fun E9 h => by cases h; rfl)) (fun v h => by cases h) (fun v' M'' ho => by cases ho) (fun E M'' ho => by cases ho; rfl)

theorem j_callSi {z : Nat} {N : Nv9} {X : Cx9} {out : Out9 × Mem9} {nL cm : Nat} {cc : ByteArray} {own : String} {d rk : Nat} {hh : List (Nat × Nat × Nat × Nat)} {pc : Nat} {ls : List (Nat × Value)} {st : List Value} {M : Mem9} {κ : Nat} {F : Re9} (C : OK9 z N X out nL cm cc own d rk hh) (hh0 : hh = []) {idx n d' maxL : Nat} {y : MethodName} {yc : ByteArray} {ret : Option FieldType} {rest : List Value} {r : Re9} {K : Int32 → Mem9 → Re9}
    (hd : decode cc pc = .ok (.invokestatic idx, 3)) (hl : LO9 own idx y yc maxL ret n) (hst : st.drop n = rest) (hn : n ≤ st.length) (hcat : (rest.map fun v => v.category).sum ≤ 8) (hdd : d' + 1 ≤ d) (hκ : κ = 0 ∨ κ + 1 ≤ cm) (hcm : co9 out.1 ≤ cm) (hsp : ∀ l : Launch, l.stackTraces = false → ∀ o, r = some o → Sp9 l z N y (Cond.code y yc maxL ret) d' (st.take n).reverse M (co9 o.1) o)
    (hk : ∀ v M', J9 z N X out nL (pc + 3) ls (.int v :: rest) M' (κ) (K v M')) : J9 z N X out nL pc ls st M κ (bi9 r K) := by
  obtain ⟨p, l, e, R, s, m, args, below, meth, c, QQ⟩ := X
  intro hF H locs lsA hP hS hls
  have hl9 : l.stackTraces = false := C.2.2.2.2.2.2.2.1
  rcases bi9_inv hF with ⟨v, M', h1, h2⟩ | ⟨E, M', h1, rfl⟩
  · refine j_call0 C hh0 (κ' := κ) (runS9 C hd hl hst hn hcat hdd (hsp l hl9 _ h1) (k9 hκ hcm (fun E h => by cases h)) hP hS hls) hS hls (k9 hκ hcm (fun E h => by cases h)) (fun _ _ => rfl) (fun v' M'' ho => ?_) (fun E M'' ho => by cases ho)
    cases ho
    exact ⟨_, h2, hk v M'⟩
  · refine j_call0 C hh0 (κ' := κ) (runS9 C hd hl hst hn hcat hdd (hsp l hl9 _ h1) (k9 hκ hcm (fun E9 h => by cases h; rfl)) hP hS hls) hS hls (k9 hκ hcm (fun E9 h => by cases h; rfl)) (fun v h => by cases h) (fun v' M'' ho => by cases ho) (fun E M'' ho => by cases ho; rfl)

theorem j_callSl {z : Nat} {N : Nv9} {X : Cx9} {out : Out9 × Mem9} {nL cm : Nat} {cc : ByteArray} {own : String} {d rk : Nat} {hh : List (Nat × Nat × Nat × Nat)} {pc : Nat} {ls : List (Nat × Value)} {st : List Value} {M : Mem9} {κ : Nat} {F : Re9} (C : OK9 z N X out nL cm cc own d rk hh) (hh0 : hh = []) {idx n d' maxL : Nat} {y : MethodName} {yc : ByteArray} {ret : Option FieldType} {rest : List Value} {r : Re9} {K : Int64 → Mem9 → Re9}
    (hd : decode cc pc = .ok (.invokestatic idx, 3)) (hl : LO9 own idx y yc maxL ret n) (hst : st.drop n = rest) (hn : n ≤ st.length) (hcat : (rest.map fun v => v.category).sum ≤ 8) (hdd : d' + 1 ≤ d) (hκ : κ = 0 ∨ κ + 1 ≤ cm) (hcm : co9 out.1 ≤ cm) (hsp : ∀ l : Launch, l.stackTraces = false → ∀ o, r = some o → Sp9 l z N y (Cond.code y yc maxL ret) d' (st.take n).reverse M (co9 o.1) o)
    (hk : ∀ v M', J9 z N X out nL (pc + 3) ls (.long v :: rest) M' (κ) (K v M')) : J9 z N X out nL pc ls st M κ (bl9 r K) := by
  obtain ⟨p, l, e, R, s, m, args, below, meth, c, QQ⟩ := X
  intro hF H locs lsA hP hS hls
  have hl9 : l.stackTraces = false := C.2.2.2.2.2.2.2.1
  rcases bl9_inv hF with ⟨v, M', h1, h2⟩ | ⟨E, M', h1, rfl⟩
  · refine j_call0 C hh0 (κ' := κ) (runS9 C hd hl hst hn hcat hdd (hsp l hl9 _ h1) (k9 hκ hcm (fun E h => by cases h)) hP hS hls) hS hls (k9 hκ hcm (fun E h => by cases h)) (fun _ _ => rfl) (fun v' M'' ho => ?_) (fun E M'' ho => by cases ho)
    cases ho
    exact ⟨_, h2, hk v M'⟩
  · refine j_call0 C hh0 (κ' := κ) (runS9 C hd hl hst hn hcat hdd (hsp l hl9 _ h1) (k9 hκ hcm (fun E9 h => by cases h; rfl)) hP hS hls) hS hls (k9 hκ hcm (fun E9 h => by cases h; rfl)) (fun v h => by cases h) (fun v' M'' ho => by cases ho) (fun E M'' ho => by cases ho; rfl)

theorem j_callSv {z : Nat} {N : Nv9} {X : Cx9} {out : Out9 × Mem9} {nL cm : Nat} {cc : ByteArray} {own : String} {d rk : Nat} {hh : List (Nat × Nat × Nat × Nat)} {pc : Nat} {ls : List (Nat × Value)} {st : List Value} {M : Mem9} {κ : Nat} {F : Re9} (C : OK9 z N X out nL cm cc own d rk hh) (hh0 : hh = []) {idx n d' maxL : Nat} {y : MethodName} {yc : ByteArray} {ret : Option FieldType} {rest : List Value} {r : Re9} {K : Mem9 → Re9}
    (hd : decode cc pc = .ok (.invokestatic idx, 3)) (hl : LO9 own idx y yc maxL ret n) (hst : st.drop n = rest) (hn : n ≤ st.length) (hcat : (rest.map fun v => v.category).sum ≤ 8) (hdd : d' + 1 ≤ d) (hκ : κ = 0 ∨ κ + 1 ≤ cm) (hcm : co9 out.1 ≤ cm) (hsp : ∀ l : Launch, l.stackTraces = false → ∀ o, r = some o → Sp9 l z N y (Cond.code y yc maxL ret) d' (st.take n).reverse M (co9 o.1) o)
    (hk : ∀ M', J9 z N X out nL (pc + 3) ls (rest) M' (κ) (K M')) : J9 z N X out nL pc ls st M κ (bv9 r K) := by
  obtain ⟨p, l, e, R, s, m, args, below, meth, c, QQ⟩ := X
  intro hF H locs lsA hP hS hls
  have hl9 : l.stackTraces = false := C.2.2.2.2.2.2.2.1
  rcases bv9_inv hF with ⟨M', h1, h2⟩ | ⟨E, M', h1, rfl⟩
  · refine j_call0 C hh0 (κ' := κ) (runS9 C hd hl hst hn hcat hdd (hsp l hl9 _ h1) (k9 hκ hcm (fun E h => by cases h)) hP hS hls) hS hls (k9 hκ hcm (fun E h => by cases h)) (fun _ _ => rfl) (fun v' M'' ho => ?_) (fun E M'' ho => by cases ho)
    cases ho
    exact ⟨_, h2, hk M'⟩
  · refine j_call0 C hh0 (κ' := κ) (runS9 C hd hl hst hn hcat hdd (hsp l hl9 _ h1) (k9 hκ hcm (fun E9 h => by cases h; rfl)) hP hS hls) hS hls (k9 hκ hcm (fun E9 h => by cases h; rfl)) (fun v h => by cases h) (fun v' M'' ho => by cases ho) (fun E M'' ho => by cases ho; rfl)

theorem j_callWi {z : Nat} {N : Nv9} {X : Cx9} {out : Out9 × Mem9} {nL cm : Nat} {cc : ByteArray} {own : String} {d rk : Nat} {hh : List (Nat × Nat × Nat × Nat)} {pc : Nat} {ls : List (Nat × Value)} {st : List Value} {M : Mem9} {κ : Nat} {F : Re9} (C : OK9 z N X out nL cm cc own d rk hh) (hh0 : hh = []) {idx n d' maxL : Nat} {hw : List (Nat × Nat × Nat × Nat)} {y : MethodName} {yc : ByteArray} {ret : Option FieldType} {rest : List Value} {r : Re9} {K : Int32 → Mem9 → Re9}
    (hd : decode cc pc = .ok (.invokestatic idx, 3)) (hl : LW9 own idx y yc maxL ret hw n) (hst : st.drop n = rest) (hn : n ≤ st.length) (hcat : (rest.map fun v => v.category).sum ≤ 8) (hdd : d' + 1 ≤ d) (hκ : κ + 1 ≤ cm) (hsp : ∀ l : Launch, l.stackTraces = false → ∀ o, r = some o → Sp9 l z N y (Cond.codeWith y yc maxL ret hw) d' (st.take n).reverse M 1 o)
    (hk : ∀ v M', J9 z N X out nL (pc + 3) ls (.int v :: rest) M' (κ + 1) (K v M')) : J9 z N X out nL pc ls st M κ (bi9 r K) := by
  obtain ⟨p, l, e, R, s, m, args, below, meth, c, QQ⟩ := X
  intro hF H locs lsA hP hS hls
  have hl9 : l.stackTraces = false := C.2.2.2.2.2.2.2.1
  rcases bi9_inv hF with ⟨v, M', h1, h2⟩ | ⟨E, M', h1, rfl⟩
  · refine j_call0 C hh0 (κ' := κ + 1) (runW9 C hd hl hst hn hcat hdd (hsp l hl9 _ h1) hκ hP hS hls) hS hls hκ (fun _ _ => rfl) (fun v' M'' ho => ?_) (fun E M'' ho => by cases ho)
    cases ho
    exact ⟨_, h2, hk v M'⟩
  · refine j_call0 C hh0 (κ' := κ + 1) (runW9 C hd hl hst hn hcat hdd (hsp l hl9 _ h1) hκ hP hS hls) hS hls hκ (fun v h => by cases h) (fun v' M'' ho => by cases ho) (fun E M'' ho => by cases ho; rfl)

/-! ===== a call under handlers ===== -/
def CT9 (own : String) (hh : List (Nat × Nat × Nat × Nat)) (pc : Nat) (E : String) (hp : Nat) : Prop := ∃ (pre : List ExceptionTableEntry) (x : ExceptionTableEntry) (suf : List ExceptionTableEntry), tableOf hh = pre ++ x :: suf ∧ (∀ y ∈ pre, y.catchType ≠ 0 ∧ ∃ nm ∈ excs9, E ≠ nm ∧ Cond.classLink own y.catchType nm ∈ gw9) ∧ covers x pc = true ∧ x.catchType ≠ 0 ∧ Cond.classLink own x.catchType E ∈ gw9 ∧ x.handlerPc = hp
theorem j_callVh {z : Nat} {N : Nv9} {X : Cx9} {out : Out9 × Mem9} {nL cm : Nat} {cc : ByteArray} {own : String} {d rk : Nat} {hh : List (Nat × Nat × Nat × Nat)} {pc : Nat} {ls : List (Nat × Value)} {st : List Value} {M : Mem9} {κ : Nat} {F : Re9} (C : OK9 z N X out nL cm cc own d rk hh) {idx ci n d' maxL b : Nat} {y : MethodName} {yc : ByteArray} {ret : Option FieldType} {rest : List Value} {r : Re9} {K : Int32 → Mem9 → Re9} {XX : String → Mem9 → Re9}
    (hd : decode cc pc = .ok (.invokevirtual idx, 3)) (hl : LV9 own idx ci y yc maxL ret n) (hst : st.drop n = .ref b :: rest) (hn : n ≤ st.length) (hcat : (rest.map fun v => v.category).sum ≤ 8) (hdd : d' + 1 ≤ d) (hκ : κ = 0) (hcm : 1 ≤ cm) (hsp : ∀ l : Launch, l.stackTraces = false → ∀ o, r = some o → Sp9 l z N y (Cond.code y yc maxL ret) d' (.ref b :: (st.take n).reverse) M (co9 o.1) o)
    (hk : ∀ v M', J9 z N X out nL (pc + 3) ls (.int v :: rest) M' κ (K v M')) (hX : ∀ E ∈ excs9, ∀ M', XX E M' = none ∨ ∃ hp, CT9 own hh pc E hp ∧ ∀ q : Nat, J9 z N X out nL hp ls [.ref q] M' 1 (XX E M')) : J9 z N X out nL pc ls st M κ (bh9 (iv9 z b ci r) K XX) := by
  obtain ⟨p, l, e, R, s, m, args, below, meth, c, QQ⟩ := X
  intro hF H locs lsA hP hS hls
  subst hκ
  have hl9 : l.stackTraces = false := C.2.2.2.2.2.2.2.1
  obtain ⟨hx, hb, hml, hown, hts, hE, hr, hst9, htb, -⟩ := id C
  rcases bh9_inv hF with ⟨v, M', h1, h2⟩ | ⟨E, M', h1, h2⟩
  · obtain ⟨h0, h1⟩ := iv9_inv h1
    refine call9 (runV9 C hd hl hst hn hcat hdd (hsp l hl9 _ h1) h0 (by show 0 + 0 ≤ cm; omega) hP hS hls) hS (fun v' M'' H1 locs1 ho hP1 hS1 => ?_) (fun E M'' H1 locs1 q ce hE ho => by cases ho)
    cases ho
    exact hk v M' h2 H1 locs1 lsA hP1 hS1 hls
  · obtain ⟨h0, h1⟩ := iv9_inv h1
    refine call9 (runV9 C hd hl hst hn hcat hdd (hsp l hl9 _ h1) h0 (by show 0 + 1 ≤ cm; omega) hP hS hls) hS (fun v' M'' H1 locs1 ho => by cases ho) (fun E' M'' H1 locs1 q ce hE' ho hP1 hS1 hq hv hc => ?_)
    cases ho
    rcases hX E hE' M' with h3 | ⟨hp, ⟨pre, x, suf, c1, c2, c3, c4, c5, rfl⟩, hJ⟩
    · rw [h3] at h2
      cases h2
    · obtain ⟨sb, L, xs, D, ca⟩ := N
      obtain ⟨-, -, -, -, -, -, e7, e8⟩ := hE
      exact vx_catch hown pre x suf (by rw [htb]; exact c1) (fun y hy => Or.inr (by obtain ⟨a1, nm, a2, a3, a4⟩ := c2 y hy; exact ⟨a1, nm, hts _ a4, e8 E hE' nm a2 a3⟩)) c3 c4 (hts _ c5) (va_Nw.use rfl (e7 E hE')) hq hv hc (hJ q h2 H1 locs1 lsA hP1 hS1 hls)
/-! ===== from the judgement at a method's start to its contract ===== -/
theorem pre_of {z : Nat} {N : Nv9} {av : List Value} {M : Mem9} {args : Array Value} {s : State} (h : Pc9 z N av M args s) : args = av.toArray ∧ EV9 z N s ∧ PM9 z N M s.heap := ⟨h.1, h.2.1, h.2.2⟩
def rk9 (rk : Nat) (ret : Option FieldType) : Prop := (rk = 0 ∧ ret = none) ∨ (rk = 1 ∧ ret = some .int) ∨ (rk = 2 ∧ ret = some .boolean) ∨ (rk = 3 ∧ ret = some .long)
theorem ret9 {z : Nat} {N : Nv9} {p : Program} {l : Launch} {e : Env} {R : Room} {s : State} {m : MethodId} {args : Array Value} {below : List Frame} {meth : Method} {c : Code} {cc : ByteArray} {rk cm : Nat} {ret : Option FieldType} {out : Out9 × Mem9} {XC : String → State → State → Prop} (hx : p.tables.exec = Jvm.exec) (hb : c.code = cc) (hr : meth.sig.returnType = ret) (hrk : rk9 rk ret) (hlocks : meth.locks = false) (v : Option Value) (i : Instr) (pc : Nat) (M : Mem9) (κ : Nat) (H : Heap) (locs : List Loc) (lsA : Array Slot) (h : rt9 rk v i) (hd : decode cc pc = .ok (i, 1)) (ho : out = (.inl v, M)) (hκ : κ ≤ cm) (hP : PM9 z N M H) (hS : va_S (A9 z) s.heap H locs) :
    W p l e R s m args below meth c H locs κ (6 * κ) (vx_MQ below (Qc9 z N out) XC args s cm (6 * cm) (A9 z)) (F0 m pc lsA v.toList) := by
  refine vx_ret (W.widen hκ (by omega : 6 * κ ≤ 6 * cm) ?_)
  have hq : ∀ t : State, t.heap = H → s.WarmedH t.vm → Qc9 z N out args s (.returned v) t := fun t ht hW => ⟨⟨v, rfl, by rw [ho], by rw [ho, ht]; exact hP⟩, hS.F ht⟩
  rcases h with ⟨h1, rfl, rfl⟩ | ⟨h1, ⟨x, rfl⟩, rfl⟩ | ⟨h1, ⟨x, hx2, rfl⟩, rfl⟩ | ⟨h1, ⟨x, rfl⟩, rfl⟩
  · rcases hrk with ⟨a, h2⟩ | ⟨a, h2⟩ | ⟨a, h2⟩ | ⟨a, h2⟩
    · exact W.vret hx hb (hr.trans h2) hq hS.2.2 hd hlocks
    · omega
    · omega
    · omega
  · rcases hrk with ⟨a, h2⟩ | ⟨a, h2⟩ | ⟨a, h2⟩ | ⟨a, h2⟩
    · omega
    · exact W.iret hx hb (hr.trans h2) hq hS.2.2 hd hlocks
    · omega
    · omega
  · rcases hrk with ⟨a, h2⟩ | ⟨a, h2⟩ | ⟨a, h2⟩ | ⟨a, h2⟩
    · omega
    · omega
    · exact W.zret (ty := .boolean) hx hb (hr.trans h2) (by rcases hx2 with rfl | rfl <;> rfl) hq hS.2.2 hd hlocks
    · omega
  · rcases hrk with ⟨a, h2⟩ | ⟨a, h2⟩ | ⟨a, h2⟩ | ⟨a, h2⟩
    · omega
    · omega
    · omega
    · exact W.lret hx hb (hr.trans h2) hq hS.2.2 hd hlocks
theorem throw9 {z : Nat} {N : Nv9} {p : Program} {l : Launch} {e : Env} {R : Room} {s : State} {m : MethodId} {args : Array Value} {below : List Frame} {meth : Method} {c : Code} {cc : ByteArray} {own : String} {nL cm d : Nat} {out : Out9 × Mem9} {Qc : Array Value → State → Outcome → State → Prop} (hx : p.tables.exec = Jvm.exec) (hb : c.code = cc) (hml : c.maxLocals = nL) (hown : s.vm.findClass own = some m.cls) (hts : ∀ w ∈ gw9, w.before args s = true) (hE : EV9 z N s) (hR : d ≤ R.frames ∧ 32 * d ≤ R.locals ∧ cm ≤ R.cells ∧ 6 * cm ≤ R.slots) (hst : l.stackTraces = false) (htb : c.exceptionTable.toList = []) (hlocks : meth.locks = false)
    (E : String) (pc : Nat) (M : Mem9) (κ : Nat) (H : Heap) (locs : List Loc) (lsA : Array Slot) (rest : List Value) (h : TH9 own cc pc E) (hsz : lsA.size = nL) (hd6 : 6 ≤ d) (hcat : (rest.map fun v => v.category).sum ≤ 8) (ho : out = (.inr E, M)) (hκ : κ + 1 ≤ cm) (hP : PM9 z N M H) (hS : va_S (A9 z) s.heap H locs) :
    W p l e R s m args below meth c H locs κ (6 * κ) (vx_MQ below Qc (XC9 z N out) args s cm (6 * cm) (A9 z)) (F0 m pc lsA rest) := by
  obtain ⟨ik, is, ic, text, t1, t2, t3, t4, t5, t6, t7, t8, d0, d3, dd⟩ := h
  obtain ⟨sb, L, xs, D, ca⟩ := N
  obtain ⟨e1, e2, e3, e4, e5, e6, e7, e8⟩ := hE
  obtain ⟨sa, hsa⟩ := e6 _ t2
  obtain ⟨r1, r2, r3, r4⟩ := hR
  have hat : ∀ w ∈ vx_atS own ic E names9, w.before args s = true := vx_hat (fun w hw => hts w (t5 w hw)) t6 (fun w hw => by rw [List.mem_singleton.mp hw]; exact va_Nw.use rfl (e7 E t1))
  have hnames : ∀ n ∈ names9, Bundle.fit n = true := by decide +kernel
  have hXC : ∀ t : State, s.vm.Alike t.vm → H.size ≤ t.heap.size → (∀ q : Nat, q < H.size → t.heap[q]? = H[q]?) → XC9 z (sb, L, xs, D, ca) out E s t := by
    intro t _ hz hk
    refine ⟨⟨t1, by rw [ho], ?_⟩, Nat.le_trans hS.1 hz, fun q h1 h2 => by rw [hk q (Nat.lt_of_lt_of_le h1 hS.1)]; exact hS.2.1 q h1 h2⟩
    rw [ho]
    exact va_P.kept hP (fun k q hq => hk q.1 (hP k q hq).lt)
  have hlen : names9.length = 2 := rfl
  rcases dd with ⟨d4, d6, d9⟩ | ⟨d4, d7, d10⟩
  · exact vx_throwS hx hb hst hown t7 hnames (hts _ t3) (hts _ t4) hsa hat t8 e4 e5 hS (by rw [hsz, hml]) d0 d3 d4 d6 d9 (by rw [htb]; intro x hx; cases hx) (by rw [hlen]; omega) (by rw [hlen]; omega) (by omega) (by omega) hlocks hXC hS.2.2 hκ (by omega)
  · exact vx_throwSW hx hb hst hown t7 hnames (hts _ t3) (hts _ t4) hsa hat t8 e4 e5 hS (by rw [hsz, hml]) d0 d3 d4 d7 d10 (by rw [htb]; intro x hx; cases hx) (by rw [hlen]; omega) (by rw [hlen]; omega) (by omega) (by omega) hlocks hXC hS.2.2 hκ (by omega)
theorem sp9_of {l : Launch} {z : Nat} {N : Nv9} {y : MethodName} {cc : ByteArray} {maxL : Nat} {ret : Option FieldType} {own : String} {d rk : Nat} {av : List Value} {M : Mem9} {F : Re9} {out : Out9 × Mem9} (hy : plainName y.cls = true) (hown : y.cls = own) (hrk : rk9 rk ret) (hst : l.stackTraces = false) (hln : (lg_sl av).length ≤ maxL)
    (hJ : ∀ X, OK9 z N X out maxL (co9 out.1) cc own d rk [] → J9 z N X out maxL 0 (lv_args 0 av) [] M 0 F) (hF : F = some out) : Sp9 l z N y (Cond.code y cc maxL ret) d av M (co9 out.1) out := by
  refine vx_ofW (cc := cc) (maxL := maxL) (ret := ret) hy rfl ?_
  intro p e s m args below meth c s₁ B hml htab hv
  obtain ⟨rfl, hE, hP⟩ := pre_of hv
  have hts : ∀ w ∈ gw9, w.before av.toArray s = true := fun w hw => atoms_spec (ws := Cond.code y cc maxL ret :: gw9) B.pre w (List.mem_cons_of_mem _ hw)
  have hown9 : s.vm.findClass own = some m.cls := by rw [← hown]; exact findClass_of_methodNamed B.named
  have htb : c.exceptionTable.toList = [] := by
    cases h : c.exceptionTable.toList with
    | nil => rfl
    | cons x xs => exact absurd (htab x (by rw [h]; exact List.mem_cons_self)) (fun h => h)
  have hR : d ≤ (headSpec (Cond.code y cc maxL ret :: gw9) (room9 d (co9 out.1))).room.frames ∧ 32 * d ≤ (headSpec (Cond.code y cc maxL ret :: gw9) (room9 d (co9 out.1))).room.locals ∧ co9 out.1 ≤ (headSpec (Cond.code y cc maxL ret :: gw9) (room9 d (co9 out.1))).room.cells ∧ 6 * co9 out.1 ≤ (headSpec (Cond.code y cc maxL ret :: gw9) (room9 d (co9 out.1))).room.slots := ⟨Nat.le_refl _, Nat.le_refl _, Nat.le_refl _, Nat.le_refl _⟩
  have hl := lv_entry av (n := maxL) hln
  rw [lg_entry_eq]
  refine hJ (p, l, e, (headSpec (Cond.code y cc maxL ret :: gw9) (room9 d (co9 out.1))).room, s, m, av.toArray, below, meth, c, vx_MQ below (Qc9 z N out) (XC9 z N out) av.toArray s (co9 out.1) (6 * co9 out.1) (A9 z)) ?_ hF s.heap [] _ hP va_S.rf hl
  refine ⟨B.exec, B.bytes, hml, hown9, hts, hE, hR, hst, htb, ?_, ?_, ?_⟩
  · intro v i pc M' κ H locs lsA h1 h2 h3 h4 h5 h6
    exact ret9 B.exec B.bytes B.returns hrk B.notSynchronized v i pc M' κ H locs lsA h1 h2 h3 h4 h5 h6
  · intro _ E q ce pc M' κ H locs lsA rest hEx ho hκ hq hv hc hP1 hS1
    refine vx_out (by rw [htb]; intro x hx; cases hx) B.notSynchronized hq hv hc (fun t ht _ => ⟨⟨hEx, by rw [ho], by rw [ho, ht]; exact hP1⟩, hS1.F ht⟩) hS1.2.2 hκ (by omega)
  · intro _ E pc M' κ H locs lsA rest h1 h2 h3 h4 h5 h6 h7 h8
    exact throw9 B.exec B.bytes hml hown9 hts hE hR hst htb B.notSynchronized E pc M' κ H locs lsA rest h1 h2 h3 h4 h5 h6 h7 h8
theorem sp9_ofH {l : Launch} {z : Nat} {N : Nv9} {y : MethodName} {cc : ByteArray} {maxL : Nat} {ret : Option FieldType} {own : String} {d rk : Nat} {hw : List (Nat × Nat × Nat × Nat)} {av : List Value} {M : Mem9} {F : Re9} {out : Out9 × Mem9} (hy : plainName y.cls = true) (hown : y.cls = own) (hrk : rk9 rk ret) (hst : l.stackTraces = false) (hln : (lg_sl av).length ≤ maxL) (hne : hw ≠ [])
    (hJ : ∀ X, OK9 z N X out maxL 1 cc own d rk hw → J9 z N X out maxL 0 (lv_args 0 av) [] M 0 F) (hF : F = some out) : Sp9 l z N y (Cond.codeWith y cc maxL ret hw) d av M 1 out := by
  refine vx_ofWH (cc := cc) (maxL := maxL) (ret := ret) (hh := hw) hy rfl ?_
  intro p e s m args below meth c s₁ B hml hv
  obtain ⟨rfl, hE, hP⟩ := pre_of hv
  have hts0 : ∀ w ∈ Cond.codeWith y cc maxL ret hw :: gw9, w.before av.toArray s = true := atoms_spec (ws := Cond.codeWith y cc maxL ret hw :: gw9) B.pre
  have hts : ∀ w ∈ gw9, w.before av.toArray s = true := fun w hw => hts0 w (List.mem_cons_of_mem _ hw)
  have hown9 : s.vm.findClass own = some m.cls := by rw [← hown]; exact findClass_of_methodNamed B.named
  have htb : c.exceptionTable.toList = tableOf hw := vx_table (x := y) B (hts0 _ List.mem_cons_self)
  have hl := lv_entry av (n := maxL) hln
  rw [lg_entry_eq]
  refine hJ (p, l, e, (headSpec (Cond.codeWith y cc maxL ret hw :: gw9) (room9 d 1)).room, s, m, av.toArray, below, meth, c, vx_MQ below (Qc9 z N out) (XC9 z N out) av.toArray s 1 (6 * 1) (A9 z)) ?_ hF s.heap [] _ hP va_S.rf hl
  refine ⟨B.exec, B.bytes, hml, hown9, hts, hE, ⟨Nat.le_refl _, Nat.le_refl _, Nat.le_refl _, Nat.le_refl _⟩, hst, htb, ?_, ?_, ?_⟩
  · intro v i pc M' κ H locs lsA h1 h2 h3 h4 h5 h6
    exact ret9 B.exec B.bytes B.returns hrk B.notSynchronized v i pc M' κ H locs lsA h1 h2 h3 h4 h5 h6
  · intro h
    exact absurd h hne
  · intro h
    exact absurd h hne
end
section
-- the owed theorem, until the walk stands
theorem i_vc : Claimed_1_1 ∧ Claimed_1_2 := sorry
end
