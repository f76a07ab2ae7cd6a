def R_law : String := "LorryArmsLaw"
def lw_P (b : Addr) (xs : List Int32) (args : Array Value) (s : State) : Prop := args = #[.ref b] ∧ s.IntsAt b xs ∧ xs.length ≤ 260 ∧ (Jvm.Cond.and given_1 narrow_1).before args s = true
def lw_Q (_ : Array Value) (s : State) (o : Outcome) (t : State) : Prop := o = .returned (some (.int 1)) ∧ Framed s o t [] 678001 7067621
def lw_Z (below : List Frame) (a : Array Value) (s : State) : State → Prop := fun t => ∃ o, t.status = .running ∧ Ended t below o ∧ lw_Q a s o t
/-- the law's own end, with 1 on the stack, nothing written that was there before, its room as the claim has it -/
theorem lw_ret {p : Program} {l : Launch} {e : Env} {s : State} {m : MethodId} {below : List Frame} {meth : Method} {c : Code} {b : Nat} (hx : p.tables.exec = Jvm.exec) (hb : c.code = code) (hr : meth.sig.returnType = ret) (hlocks : meth.locks = false) {pc : Nat} {H : Heap} {ls : Array Slot} (hdg : decode code pc = .ok (.ireturn, 1)) : W p l e room_1 s m #[Value.ref b] below meth c H [] 678001 7067621 (lw_Z below #[Value.ref b] s) (F0 m pc ls [.int 1]) := by
  intro T hT X
  obtain ⟨fs, hret, hrun, hended, hW, hframe⟩ := X.leave (v := some (.int 1)) (hlocks := hlocks) (fun h => by rw [hr] at h; cases h)
  have hmeth' : T.vm.method? m = some meth := X.method'
  refine ⟨T.setFrames fs, ?_, .returned (some (.int 1)), hrun, hended, rfl, ⟨_, rfl⟩, hW, hframe⟩
  jvm_step X.here [X.here.top, hx, hb, hdg, hmeth', hr, ret, narrow_b1]
  (try refine ⟨rfl, ?_⟩); (try refine ⟨rfl, ?_⟩)
  first | (intro acts; rw [hret _ acts rfl rfl rfl]) | rw [hret _ _ rfl rfl rfl]
  exact Steps.refl _
/-- what holds at the law's entry: the machine, the code, the tables' words (any of lw_tbl by 'hts w (by decide +kernel)'), the script of L ints xs at the cell b, what the Statement gives of the start (any of its parts by flat_of_before) -/
def lw_At (p : Program) (s : State) (m : MethodId) (meth : Method) (c : Code) (b L : Nat) (xs : Nat → Int32) : Prop :=
  p.tables.exec = Jvm.exec ∧ c.code = code ∧ meth.sig.returnType = ret ∧ c.maxLocals = 20 ∧ s.vm.findClass R_law = some m.cls ∧ (∀ w ∈ lw_tbl, w.before #[Value.ref b] s = true) ∧ va_X b L xs s s.heap ∧ b < s.heap.size ∧ meth.locks = false ∧ (Jvm.Cond.and given_1 narrow_1).before #[Value.ref b] s = true
theorem tb9_50 : (Jvm.Cond.instantiable "LorryArms$Gate" (4 : Nat)) ∈ lw_tbl := List.mem_of_getElem? (i := 50) (by decide +kernel)
theorem tb9_57 : (Jvm.Cond.instantiable "LorryArms$Lane" (17 : Nat)) ∈ lw_tbl := List.mem_of_getElem? (i := 57) (by decide +kernel)
theorem tb9_42 : (Jvm.Cond.instantiable "LorryArms" (9 : Nat)) ∈ lw_tbl := List.mem_of_getElem? (i := 42) (by decide +kernel)
theorem tb9_126 : (Jvm.Cond.arrayClass Jvm.ClassFile.FieldType.int) ∈ lw_tbl := List.mem_of_getElem? (i := 126) (by decide +kernel)
theorem tb9_127 : (Jvm.Cond.arrayClass Jvm.ClassFile.FieldType.boolean) ∈ lw_tbl := List.mem_of_getElem? (i := 127) (by decide +kernel)
theorem tb9_125 : (Jvm.Cond.arrayClass Jvm.ClassFile.FieldType.char) ∈ lw_tbl := List.mem_of_getElem? (i := 125) (by decide +kernel)
theorem tb9_257 : (Jvm.Cond.arrayClass Jvm.ClassFile.FieldType.byte) ∈ lw_tbl := List.mem_of_getElem? (i := 257) (by decide +kernel)
theorem tb9_56 : (Jvm.Cond.arrayOver (Jvm.ClassFile.FieldType.object "LorryArms$Lane")) ∈ lw_tbl := List.mem_of_getElem? (i := 56) (by decide +kernel)
theorem tb9_149 : (Jvm.Cond.arrayOver (Jvm.ClassFile.FieldType.object "LorryArms$Gate")) ∈ lw_tbl := List.mem_of_getElem? (i := 149) (by decide +kernel)
theorem tb9_33 : (Jvm.Cond.initialized "java/lang/Throwable") ∈ lw_tbl := List.mem_of_getElem? (i := 33) (by decide +kernel)
theorem tb9_217 : (Jvm.Cond.laysStatic "java/lang/Throwable" "UNASSIGNED_STACK" "[Ljava/lang/StackTraceElement;") ∈ lw_tbl := List.mem_of_getElem? (i := 217) (by decide +kernel)
theorem nr9_4 : (Jvm.Cond.isRef (Jvm.Term.static "java/lang/Throwable" "UNASSIGNED_STACK" "[Ljava/lang/StackTraceElement;")) ∈ flatC (Jvm.Cond.and given_1 narrow_1) := List.mem_of_getElem? (i := 4) (by decide +kernel)
theorem tb9_219 : (Jvm.Cond.laysStatic "java/lang/Throwable" "SUPPRESSED_SENTINEL" "Ljava/util/List;") ∈ lw_tbl := List.mem_of_getElem? (i := 219) (by decide +kernel)
theorem nr9_5 : (Jvm.Cond.isRef (Jvm.Term.static "java/lang/Throwable" "SUPPRESSED_SENTINEL" "Ljava/util/List;")) ∈ flatC (Jvm.Cond.and given_1 narrow_1) := List.mem_of_getElem? (i := 5) (by decide +kernel)
theorem tb9_231 : (Jvm.Cond.stringRef "LorryArms" (46 : Nat) "a character code is 0 to 255") ∈ lw_tbl := List.mem_of_getElem? (i := 231) (by decide +kernel)
theorem nr9_35 : (Jvm.Cond.exactly (Jvm.Term.string "LorryArms" (46 : Nat)) "java/lang/String") ∈ flatC (Jvm.Cond.and given_1 narrow_1) := List.mem_of_getElem? (i := 35) (by decide +kernel)
theorem tb9_267 : (Jvm.Cond.stringRef "LorryArms" (53 : Nat) "the text is full") ∈ lw_tbl := List.mem_of_getElem? (i := 267) (by decide +kernel)
theorem nr9_67 : (Jvm.Cond.exactly (Jvm.Term.string "LorryArms" (53 : Nat)) "java/lang/String") ∈ flatC (Jvm.Cond.and given_1 narrow_1) := List.mem_of_getElem? (i := 67) (by decide +kernel)
theorem tb9_314 : (Jvm.Cond.stringRef "LorryArms" (70 : Nat) "the text is not a gate") ∈ lw_tbl := List.mem_of_getElem? (i := 314) (by decide +kernel)
theorem nr9_88 : (Jvm.Cond.exactly (Jvm.Term.string "LorryArms" (70 : Nat)) "java/lang/String") ∈ flatC (Jvm.Cond.and given_1 narrow_1) := List.mem_of_getElem? (i := 88) (by decide +kernel)
theorem tb9_442 : (Jvm.Cond.stringRef "LorryArms" (127 : Nat) "what is 0 to 9") ∈ lw_tbl := List.mem_of_getElem? (i := 442) (by decide +kernel)
theorem nr9_116 : (Jvm.Cond.exactly (Jvm.Term.string "LorryArms" (127 : Nat)) "java/lang/String") ∈ flatC (Jvm.Cond.and given_1 narrow_1) := List.mem_of_getElem? (i := 116) (by decide +kernel)
theorem tb9_473 : (Jvm.Cond.stringRef "LorryArms" (177 : Nat) "there is no such lane") ∈ lw_tbl := List.mem_of_getElem? (i := 473) (by decide +kernel)
theorem nr9_137 : (Jvm.Cond.exactly (Jvm.Term.string "LorryArms" (177 : Nat)) "java/lang/String") ∈ flatC (Jvm.Cond.and given_1 narrow_1) := List.mem_of_getElem? (i := 137) (by decide +kernel)
theorem tb9_480 : (Jvm.Cond.stringRef "LorryArms" (142 : Nat) "what is 0 to 7") ∈ lw_tbl := List.mem_of_getElem? (i := 480) (by decide +kernel)
theorem nr9_166 : (Jvm.Cond.exactly (Jvm.Term.string "LorryArms" (142 : Nat)) "java/lang/String") ∈ flatC (Jvm.Cond.and given_1 narrow_1) := List.mem_of_getElem? (i := 166) (by decide +kernel)
theorem tb9_505 : (Jvm.Cond.stringRef "LorryArms" (183 : Nat) "there is no such vehicle") ∈ lw_tbl := List.mem_of_getElem? (i := 505) (by decide +kernel)
theorem nr9_189 : (Jvm.Cond.exactly (Jvm.Term.string "LorryArms" (183 : Nat)) "java/lang/String") ∈ flatC (Jvm.Cond.and given_1 narrow_1) := List.mem_of_getElem? (i := 189) (by decide +kernel)
theorem tb9_506 : (Jvm.Cond.stringRef "LorryArms" (157 : Nat) "what is 0 to 4") ∈ lw_tbl := List.mem_of_getElem? (i := 506) (by decide +kernel)
theorem nr9_223 : (Jvm.Cond.exactly (Jvm.Term.string "LorryArms" (157 : Nat)) "java/lang/String") ∈ flatC (Jvm.Cond.and given_1 narrow_1) := List.mem_of_getElem? (i := 223) (by decide +kernel)
theorem tb9_527 : (Jvm.Cond.stringRef "LorryArms" (166 : Nat) "a setting is 0 to 2") ∈ lw_tbl := List.mem_of_getElem? (i := 527) (by decide +kernel)
theorem nr9_248 : (Jvm.Cond.exactly (Jvm.Term.string "LorryArms" (166 : Nat)) "java/lang/String") ∈ flatC (Jvm.Cond.and given_1 narrow_1) := List.mem_of_getElem? (i := 248) (by decide +kernel)
theorem tb9_535 : (Jvm.Cond.stringRef "LorryArms" (187 : Nat) "there are 3 lanes") ∈ lw_tbl := List.mem_of_getElem? (i := 535) (by decide +kernel)
theorem nr9_279 : (Jvm.Cond.exactly (Jvm.Term.string "LorryArms" (187 : Nat)) "java/lang/String") ∈ flatC (Jvm.Cond.and given_1 narrow_1) := List.mem_of_getElem? (i := 279) (by decide +kernel)
theorem tb9_559 : (Jvm.Cond.stringRef "LorryArms" (203 : Nat) "the arm is whole, or a vehicle is under it") ∈ lw_tbl := List.mem_of_getElem? (i := 559) (by decide +kernel)
theorem nr9_309 : (Jvm.Cond.exactly (Jvm.Term.string "LorryArms" (203 : Nat)) "java/lang/String") ∈ flatC (Jvm.Cond.and given_1 narrow_1) := List.mem_of_getElem? (i := 309) (by decide +kernel)
theorem tb9_567 : (Jvm.Cond.stringRef "LorryArms" (208 : Nat) "a run is 1 to 60 ticks") ∈ lw_tbl := List.mem_of_getElem? (i := 567) (by decide +kernel)
theorem nr9_365 : (Jvm.Cond.exactly (Jvm.Term.string "LorryArms" (208 : Nat)) "java/lang/String") ∈ flatC (Jvm.Cond.and given_1 narrow_1) := List.mem_of_getElem? (i := 365) (by decide +kernel)
theorem tb9_578 : (Jvm.Cond.stringRef "LorryArms" (213 : Nat) "no setting, or a value out of its range") ∈ lw_tbl := List.mem_of_getElem? (i := 578) (by decide +kernel)
theorem nr9_402 : (Jvm.Cond.exactly (Jvm.Term.string "LorryArms" (213 : Nat)) "java/lang/String") ∈ flatC (Jvm.Cond.and given_1 narrow_1) := List.mem_of_getElem? (i := 402) (by decide +kernel)
theorem tb9_591 : (Jvm.Cond.stringRef "LorryArms" (218 : Nat) "no state is remembered") ∈ lw_tbl := List.mem_of_getElem? (i := 591) (by decide +kernel)
theorem nr9_457 : (Jvm.Cond.exactly (Jvm.Term.string "LorryArms" (218 : Nat)) "java/lang/String") ∈ flatC (Jvm.Cond.and given_1 narrow_1) := List.mem_of_getElem? (i := 457) (by decide +kernel)
theorem tb9_625 : (Jvm.Cond.stringRef "LorryArms" (185 : Nat) "a length is 2 to 12") ∈ lw_tbl := List.mem_of_getElem? (i := 625) (by decide +kernel)
theorem nr9_496 : (Jvm.Cond.exactly (Jvm.Term.string "LorryArms" (185 : Nat)) "java/lang/String") ∈ flatC (Jvm.Cond.and given_1 narrow_1) := List.mem_of_getElem? (i := 496) (by decide +kernel)
theorem tb9_633 : (Jvm.Cond.stringRef "LorryArms" (231 : Nat) "n is 1 to 400") ∈ lw_tbl := List.mem_of_getElem? (i := 633) (by decide +kernel)
theorem nr9_533 : (Jvm.Cond.exactly (Jvm.Term.string "LorryArms" (231 : Nat)) "java/lang/String") ∈ flatC (Jvm.Cond.and given_1 narrow_1) := List.mem_of_getElem? (i := 533) (by decide +kernel)
theorem tb9_655 : (Jvm.Cond.stringRef "LorryArms" (277 : Nat) "a save slot is 0 or 1") ∈ lw_tbl := List.mem_of_getElem? (i := 655) (by decide +kernel)
theorem nr9_565 : (Jvm.Cond.exactly (Jvm.Term.string "LorryArms" (277 : Nat)) "java/lang/String") ∈ flatC (Jvm.Cond.and given_1 narrow_1) := List.mem_of_getElem? (i := 565) (by decide +kernel)
theorem tb9_663 : (Jvm.Cond.stringRef "LorryArms" (275 : Nat) "nothing has been saved in this slot") ∈ lw_tbl := List.mem_of_getElem? (i := 663) (by decide +kernel)
theorem nr9_606 : (Jvm.Cond.exactly (Jvm.Term.string "LorryArms" (275 : Nat)) "java/lang/String") ∈ flatC (Jvm.Cond.and given_1 narrow_1) := List.mem_of_getElem? (i := 606) (by decide +kernel)
theorem tb9_682 : (Jvm.Cond.stringRef "LorryArms" (198 : Nat) "there are 6 vehicles in the lane") ∈ lw_tbl := List.mem_of_getElem? (i := 682) (by decide +kernel)
theorem nr9_662 : (Jvm.Cond.exactly (Jvm.Term.string "LorryArms" (198 : Nat)) "java/lang/String") ∈ flatC (Jvm.Cond.and given_1 narrow_1) := List.mem_of_getElem? (i := 662) (by decide +kernel)
theorem tb9_697 : (Jvm.Cond.stringRef "LorryArms" (245 : Nat) "a script has 1 to 3 commands") ∈ lw_tbl := List.mem_of_getElem? (i := 697) (by decide +kernel)
theorem nr9_716 : (Jvm.Cond.exactly (Jvm.Term.string "LorryArms" (245 : Nat)) "java/lang/String") ∈ flatC (Jvm.Cond.and given_1 narrow_1) := List.mem_of_getElem? (i := 716) (by decide +kernel)
theorem tb9_702 : (Jvm.Cond.stringRef "LorryArms" (251 : Nat) "the script is negative or too long") ∈ lw_tbl := List.mem_of_getElem? (i := 702) (by decide +kernel)
theorem nr9_767 : (Jvm.Cond.exactly (Jvm.Term.string "LorryArms" (251 : Nat)) "java/lang/String") ∈ flatC (Jvm.Cond.and given_1 narrow_1) := List.mem_of_getElem? (i := 767) (by decide +kernel)
theorem tb9_715 : (Jvm.Cond.stringRef "LorryArms" (258 : Nat) "m is 1 to 60") ∈ lw_tbl := List.mem_of_getElem? (i := 715) (by decide +kernel)
theorem nr9_825 : (Jvm.Cond.exactly (Jvm.Term.string "LorryArms" (258 : Nat)) "java/lang/String") ∈ flatC (Jvm.Cond.and given_1 narrow_1) := List.mem_of_getElem? (i := 825) (by decide +kernel)
theorem tb9_192 : (Jvm.Cond.castable "java/lang/IllegalArgumentException" "java/lang/IllegalArgumentException") ∈ lw_tbl := List.mem_of_getElem? (i := 192) (by decide +kernel)
theorem tb9_260 : (Jvm.Cond.castable "java/lang/IllegalStateException" "java/lang/IllegalStateException") ∈ lw_tbl := List.mem_of_getElem? (i := 260) (by decide +kernel)
theorem tb9_466 : (Jvm.Cond.castable "java/lang/IndexOutOfBoundsException" "java/lang/IndexOutOfBoundsException") ∈ lw_tbl := List.mem_of_getElem? (i := 466) (by decide +kernel)
theorem nr9_14 : (Jvm.Cond.not (Jvm.Cond.castable "java/lang/IllegalArgumentException" "java/lang/IllegalStateException")) ∈ flatC (Jvm.Cond.and given_1 narrow_1) := List.mem_of_getElem? (i := 14) (by decide +kernel)
theorem nr9_19 : (Jvm.Cond.not (Jvm.Cond.castable "java/lang/IllegalArgumentException" "java/lang/IndexOutOfBoundsException")) ∈ flatC (Jvm.Cond.and given_1 narrow_1) := List.mem_of_getElem? (i := 19) (by decide +kernel)
theorem nr9_9 : (Jvm.Cond.not (Jvm.Cond.castable "java/lang/IllegalStateException" "java/lang/IllegalArgumentException")) ∈ flatC (Jvm.Cond.and given_1 narrow_1) := List.mem_of_getElem? (i := 9) (by decide +kernel)
theorem nr9_20 : (Jvm.Cond.not (Jvm.Cond.castable "java/lang/IllegalStateException" "java/lang/IndexOutOfBoundsException")) ∈ flatC (Jvm.Cond.and given_1 narrow_1) := List.mem_of_getElem? (i := 20) (by decide +kernel)
theorem nr9_10 : (Jvm.Cond.not (Jvm.Cond.castable "java/lang/IndexOutOfBoundsException" "java/lang/IllegalArgumentException")) ∈ flatC (Jvm.Cond.and given_1 narrow_1) := List.mem_of_getElem? (i := 10) (by decide +kernel)
theorem nr9_15 : (Jvm.Cond.not (Jvm.Cond.castable "java/lang/IndexOutOfBoundsException" "java/lang/IllegalStateException")) ∈ flatC (Jvm.Cond.and given_1 narrow_1) := List.mem_of_getElem? (i := 15) (by decide +kernel)
theorem tb9_583 : (Jvm.Cond.methodLinkNest "LorryArms$Gate" (66 : Nat) ({ cls := "LorryArms", name := "isSetting", desc := "(II)Z" } : Jvm.MethodName) "LorryArms") ∈ lw_tbl := List.mem_of_getElem? (i := 583) (by decide +kernel)
theorem tb9_194 : (Jvm.Cond.declares ({ cls := "java/lang/RuntimeException", name := "<init>", desc := "(Ljava/lang/String;)V" } : Jvm.MethodName)) ∈ lw_tbl := List.mem_of_getElem? (i := 194) (by decide +kernel)
theorem tb9_196 : (Jvm.Cond.declares ({ cls := "java/lang/Exception", name := "<init>", desc := "(Ljava/lang/String;)V" } : Jvm.MethodName)) ∈ lw_tbl := List.mem_of_getElem? (i := 196) (by decide +kernel)
theorem tb9_198 : (Jvm.Cond.declares ({ cls := "java/lang/Throwable", name := "<init>", desc := "(Ljava/lang/String;)V" } : Jvm.MethodName)) ∈ lw_tbl := List.mem_of_getElem? (i := 198) (by decide +kernel)
theorem str9 {args : Array Value} {s : State} {own tx : String} {k : Nat} (h1 : (Cond.stringRef own k tx).before args s = true) (h2 : (Cond.exactly (Term.string own k) "java/lang/String").before args s = true) : ∃ sa, vk_R own k tx sa s := by
  obtain ⟨a, c, cell, k9, e9, -⟩ := Cond.exactly_spec h2
  exact ⟨a, vk_R.of h1 e9⟩
theorem ev9_of {p : Program} {s : State} {m : MethodId} {meth : Method} {c : Code} {b L : Nat} {xs : Nat → Int32} (C0 : lw_At p s m meth c b L xs) : ∃ (D : va_G) (ca : Nat → ClassId), EV9 (s.heap.size, 0, fun _ => (0, 0)) (b, L, xs, D, ca) s := by
  obtain ⟨hx, hb, hr, hml, hown, hts, hX, hbl, hlocks, hgv⟩ := C0
  have hg : ∀ w ∈ gw9, w.before #[Value.ref b] s = true := fun w hw => hts w (List.mem_filter.mp hw).1
  have hn := flat_of_before _ hgv
  obtain ⟨c0, i0, k0⟩ := u_known (C := RX0) (T := TX0) (N := 4) hg inG_X0 (hts _ tb9_50)
  obtain ⟨c1, i1, k1⟩ := u_known (C := RX1) (T := TX1) (N := 17) hg inG_X1 (hts _ tb9_57)
  obtain ⟨c2, i2, k2⟩ := u_known (C := RX2) (T := TX2) (N := 9) hg inG_X2 (hts _ tb9_42)
  obtain ⟨a0, kA0, cp0, p0, q0, r0⟩ := Cond.arrayClass_spec (hts _ tb9_126)
  obtain ⟨a1, kA1, cp1, p1, q1, r1⟩ := Cond.arrayClass_spec (hts _ tb9_127)
  obtain ⟨a2, kA2, cp2, p2, q2, r2⟩ := Cond.arrayClass_spec (hts _ tb9_125)
  obtain ⟨a3, kA3, cp3, p3, q3, r3⟩ := Cond.arrayClass_spec (hts _ tb9_257)
  obtain ⟨cp4, a4, kA4, p4, -, q4, r4, t4⟩ := Cond.arrayOver_spec (hts _ tb9_56)
  obtain ⟨cp5, a5, kA5, p5, -, q5, r5, t5⟩ := Cond.arrayOver_spec (hts _ tb9_149)
  have hK : va_K (fun k => if k = 0 then c0 else if k = 1 then c1 else c2, fun k => if k = 0 then i0 else if k = 1 then i1 else i2) vwCl (tys9 (fun k => if k = 0 then a0 else if k = 1 then a1 else if k = 2 then a2 else if k = 3 then a3 else if k = 4 then a4 else a5)) s := by
    refine ⟨fun k q hq => ?_, fun k q hq => ?_⟩
    · match k, hq with
      | 0, hq => cases hq; exact k0
      | 1, hq => cases hq; exact k1
      | 2, hq => cases hq; exact k2
      | k + 3, hq => simp [vwCl] at hq
    · match k, hq with
      | 0, hq => cases hq; exact ⟨fun n z => ⟨(fun k h => by cases h), kA0, q0, cp0, r0⟩, p0⟩
      | 1, hq => cases hq; exact ⟨fun n z => ⟨(fun k h => by cases h), kA1, q1, cp1, r1⟩, p1⟩
      | 2, hq => cases hq; exact ⟨fun n z => ⟨(fun k h => by cases h), kA2, q2, cp2, r2⟩, p2⟩
      | 3, hq => cases hq; exact ⟨fun n z => ⟨(fun k h => by cases h), kA3, q3, cp3, r3⟩, p3⟩
      | 4, hq => cases hq; exact ⟨fun n z => ⟨(fun k h => by cases h), kA4, q4, cp4, r4⟩, kA4, cp4, q4, r4, p4, t4⟩
      | 5, hq => cases hq; exact ⟨fun n z => ⟨(fun k h => by cases h), kA5, q5, cp5, r5⟩, kA5, cp5, q5, r5, p5, t5⟩
      | k + 6, hq => simp [tys9] at hq
  have s0 := str9 (hts _ tb9_231) (hn _ nr9_35)
  have s1 := str9 (hts _ tb9_267) (hn _ nr9_67)
  have s2 := str9 (hts _ tb9_314) (hn _ nr9_88)
  have s3 := str9 (hts _ tb9_442) (hn _ nr9_116)
  have s4 := str9 (hts _ tb9_473) (hn _ nr9_137)
  have s5 := str9 (hts _ tb9_480) (hn _ nr9_166)
  have s6 := str9 (hts _ tb9_505) (hn _ nr9_189)
  have s7 := str9 (hts _ tb9_506) (hn _ nr9_223)
  have s8 := str9 (hts _ tb9_527) (hn _ nr9_248)
  have s9 := str9 (hts _ tb9_535) (hn _ nr9_279)
  have s10 := str9 (hts _ tb9_559) (hn _ nr9_309)
  have s11 := str9 (hts _ tb9_567) (hn _ nr9_365)
  have s12 := str9 (hts _ tb9_578) (hn _ nr9_402)
  have s13 := str9 (hts _ tb9_591) (hn _ nr9_457)
  have s14 := str9 (hts _ tb9_625) (hn _ nr9_496)
  have s15 := str9 (hts _ tb9_633) (hn _ nr9_533)
  have s16 := str9 (hts _ tb9_655) (hn _ nr9_565)
  have s17 := str9 (hts _ tb9_663) (hn _ nr9_606)
  have s18 := str9 (hts _ tb9_682) (hn _ nr9_662)
  have s19 := str9 (hts _ tb9_697) (hn _ nr9_716)
  have s20 := str9 (hts _ tb9_702) (hn _ nr9_767)
  have s21 := str9 (hts _ tb9_715) (hn _ nr9_825)
  refine ⟨_, _, hK, hX, hbl, vx_Zqof (hts _ tb9_217) (hts _ tb9_33) (hn _ nr9_4) (fun a h => Nat.not_le.mpr h), vx_Zqof (hts _ tb9_219) (hts _ tb9_33) (hn _ nr9_5) (fun a h => Nat.not_le.mpr h), List.forall_mem_cons.mpr ⟨s0, List.forall_mem_cons.mpr ⟨s1, List.forall_mem_cons.mpr ⟨s2, List.forall_mem_cons.mpr ⟨s3, List.forall_mem_cons.mpr ⟨s4, List.forall_mem_cons.mpr ⟨s5, List.forall_mem_cons.mpr ⟨s6, List.forall_mem_cons.mpr ⟨s7, List.forall_mem_cons.mpr ⟨s8, List.forall_mem_cons.mpr ⟨s9, List.forall_mem_cons.mpr ⟨s10, List.forall_mem_cons.mpr ⟨s11, List.forall_mem_cons.mpr ⟨s12, List.forall_mem_cons.mpr ⟨s13, List.forall_mem_cons.mpr ⟨s14, List.forall_mem_cons.mpr ⟨s15, List.forall_mem_cons.mpr ⟨s16, List.forall_mem_cons.mpr ⟨s17, List.forall_mem_cons.mpr ⟨s18, List.forall_mem_cons.mpr ⟨s19, List.forall_mem_cons.mpr ⟨s20, List.forall_mem_cons.mpr ⟨s21, fun _ h => absurd h List.not_mem_nil⟩⟩⟩⟩⟩⟩⟩⟩⟩⟩⟩⟩⟩⟩⟩⟩⟩⟩⟩⟩⟩⟩, ?_, ?_, ?_, ?_, ?_⟩
  · exact List.forall_mem_cons.mpr ⟨va_Nw.of rfl (hts _ tb9_192), List.forall_mem_cons.mpr ⟨va_Nw.of rfl (hts _ tb9_260), List.forall_mem_cons.mpr ⟨va_Nw.of rfl (hts _ tb9_466), fun _ h => absurd h List.not_mem_nil⟩⟩⟩
  · intro E hE E2 hE2 hne
    simp only [excs9, List.mem_cons, List.not_mem_nil, or_false] at hE hE2
    rcases hE with rfl | rfl | rfl
    · rcases hE2 with rfl | rfl | rfl
      · exact absurd rfl hne
      · exact va_Nc.of (hn _ nr9_14)
      · exact va_Nc.of (hn _ nr9_19)
    · rcases hE2 with rfl | rfl | rfl
      · exact va_Nc.of (hn _ nr9_9)
      · exact absurd rfl hne
      · exact va_Nc.of (hn _ nr9_20)
    · rcases hE2 with rfl | rfl | rfl
      · exact va_Nc.of (hn _ nr9_10)
      · exact va_Nc.of (hn _ nr9_15)
      · exact absurd rfl hne
  · exact List.forall_mem_cons.mpr ⟨va_Nw.of rfl (hts _ tb9_583), fun _ h => absurd h List.not_mem_nil⟩
  · exact List.forall_mem_cons.mpr ⟨va_Nw.of rfl (hts _ tb9_194), List.forall_mem_cons.mpr ⟨va_Nw.of rfl (hts _ tb9_196), List.forall_mem_cons.mpr ⟨va_Nw.of rfl (hts _ tb9_198), fun _ h => absurd h List.not_mem_nil⟩⟩⟩
  · exact List.forall_mem_cons.mpr ⟨va_AO.of (hts _ tb9_56), List.forall_mem_cons.mpr ⟨va_AO.of (hts _ tb9_149), fun _ h => absurd h List.not_mem_nil⟩⟩
theorem whole_walk {p : Program} {e : Env} {s : State} {m : MethodId} {below : List Frame} {meth : Method} {c : Code} (l : Launch) (hflags : l.flags = flags0) {b L : Nat} {xs : Nat → Int32} (hf : ∃ M', f_L_law_b16 (s.heap.size, 766, kd9) L xs s.heap.size (s.heap.size + 383) (mem9 s.heap.size) = some (.inl (some (.int 1)), M')) (C0 : lw_At p s m meth c b L xs) : W p l e room_1 s m #[Value.ref b] below meth c s.heap [] 0 0 (lw_Z below #[Value.ref b] s) (entryFrame m ([Value.ref b] : List Value).toArray 20) := by
  obtain ⟨D, ca, hE⟩ := ev9_of C0
  obtain ⟨hx, hb, hr, hml, hown, hts, hX, hbl, hlocks, hgv⟩ := id C0
  obtain ⟨M', hM⟩ := hf
  have hg : ∀ w ∈ gw9, w.before #[Value.ref b] s = true := fun w hw => hts w (List.mem_filter.mp hw).1
  have hst : l.stackTraces = false := by unfold Launch.stackTraces; rw [hflags]; decide
  have hl := lv_entry ([.ref b]) (n := 20) (Nat.le_of_ble_eq_true rfl)
  rw [lg_entry_eq]
  generalize (lg_sl ([.ref b]) ++ List.replicate (20 - (lg_sl ([.ref b])).length) Slot.unset).toArray = ls at hl ⊢
  have hl : lv_has ls 20 [(0, .ref b)] := hl
  have hR : 13 ≤ room_1.frames ∧ 36 * 13 ≤ room_1.locals ∧ 678001 ≤ room_1.cells ∧ 7067621 ≤ room_1.slots := ⟨Nat.le_of_ble_eq_true rfl, Nat.le_of_ble_eq_true rfl, Nat.le_refl _, Nat.le_refl _⟩
  have Co : ∀ z : Sh9, z.1 = s.heap.size → OK9 z (b, L, xs, D, ca) (p, l, e, room_1, s, m, #[Value.ref b], below, meth, c, lw_Z below #[Value.ref b] s) o9 20 (678001, 7067621) cL_law RL 13 0 [] := fun z hz => ok9_o hx hb hml hown hg (EV9_sh hz hE) hR hst
  have C2 : OK9 (s.heap.size, 766, kd9) (b, L, xs, D, ca) (p, l, e, room_1, s, m, #[Value.ref b], below, meth, c, lw_Z below #[Value.ref b] s) (.inl (some (.int 1)), M') 20 (678001, 7067621) cL_law RL 13 2 [] := by
    refine ⟨hx, hb, hml, hown, hg, EV9_sh rfl hE, hR, hst, .inl rfl, ?_, ?_, ?_⟩
    · intro v i pc M κ H locs lsA hrt hd ho hκ hP hS
      have hv := (Prod.mk.inj ho).1
      have hv : some (Value.int 1) = v := Sum.inl.inj hv
      subst hv
      have hi : i = .ireturn := by
        rcases hrt with ⟨h, -⟩ | ⟨h, -⟩ | ⟨-, -, h⟩ | ⟨h, -⟩
        · omega
        · omega
        · exact h
        · omega
      subst hi
      refine va_forget (fun q hq => hS.2.2 q hq) ?_
      refine W.widen hκ.1 hκ.2 ?_
      have hPC := hP
      exact lw_ret hx hb hr hlocks hd
    · intro _ E q ce pc M κ H locs lsA rest hE ho
      cases (Prod.mk.inj ho).1
    · intro _ E pc M κ H locs lsA rest hT _ _ _ ho
      cases (Prod.mk.inj ho).1
  have hJ := law_entry (D := D) (ca := ca) (xs := xs) (L := L) (cm := (678001, 7067621)) hst rfl ⟨Nat.le_of_ble_eq_true rfl, Nat.le_of_ble_eq_true rfl⟩ Co (fun _ H locs lsA hP hS hls => ?_)
  · exact hJ rfl s.heap [] ls (fun k q h => by simp [WS9] at h) va_S.rf hl
  · exact t_L_law_b16 (κ := (766, 5730)) C2 ⟨Nat.le_of_ble_eq_true rfl, Nat.le_of_ble_eq_true rfl⟩ s.heap.size (s.heap.size + 383) (mem9 s.heap.size) hM H locs lsA hP hS hls
