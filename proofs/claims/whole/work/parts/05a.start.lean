def R_law : String := "LorryArmsLaw"
def lw_P (b : Addr) (xs : List Int32) (args : Array Value) (s : State) : Prop := args = #[.ref b] ∧ s.IntsAt b xs ∧ xs.length ≤ 2560 ∧ (Jvm.Cond.and given_1 narrow_1).before args s = true
def lw_Q (_ : Array Value) (s : State) (o : Outcome) (t : State) : Prop := o = .returned (some (.int 1)) ∧ Framed s o t [] 601024 7293034
def lw_Z (below : List Frame) (a : Array Value) (s : State) : State → Prop := fun t => ∃ o, t.status = .running ∧ Ended t below o ∧ lw_Q a s o t
/-- the law's own end, with 1 on the stack, nothing written that was there before, its room as the claim has it -/
theorem lw_ret {p : Program} {l : Launch} {e : Env} {s : State} {m : MethodId} {below : List Frame} {meth : Method} {c : Code} {b : Nat} (hx : p.tables.exec = Jvm.exec) (hb : c.code = code) (hr : meth.sig.returnType = ret) (hlocks : meth.locks = false) {pc : Nat} {H : Heap} {ls : Array Slot} (hdg : decode code pc = .ok (.ireturn, 1)) : W p l e room_1 s m #[Value.ref b] below meth c H [] 601024 7293034 (lw_Z below #[Value.ref b] s) (F0 m pc ls [.int 1]) := by
  intro T hT X
  obtain ⟨fs, hret, hrun, hended, hW, hframe⟩ := X.leave (v := some (.int 1)) (hlocks := hlocks) (fun h => by rw [hr] at h; cases h)
  have hmeth' : T.vm.method? m = some meth := X.method'
  refine ⟨T.setFrames fs, ?_, .returned (some (.int 1)), hrun, hended, rfl, ⟨_, rfl⟩, hW, hframe⟩
  jvm_step X.here [X.here.top, hx, hb, hdg, hmeth', hr, ret, narrow_b1]
  (try refine ⟨rfl, ?_⟩); (try refine ⟨rfl, ?_⟩)
  first | (intro acts; rw [hret _ acts rfl rfl rfl]) | rw [hret _ _ rfl rfl rfl]
  exact Steps.refl _
/-- what holds at the law's entry: the machine, the code, the tables' words (any of lw_tbl by 'hts w (by decide +kernel)'), the script of L ints xs at the cell b, what the Statement gives of the start (any of its parts by flat_of_before) -/
def lw_At (p : Program) (s : State) (m : MethodId) (meth : Method) (c : Code) (b L : Nat) (xs : Nat → Int32) : Prop :=
  p.tables.exec = Jvm.exec ∧ c.code = code ∧ meth.sig.returnType = ret ∧ c.maxLocals = 7 ∧ s.vm.findClass R_law = some m.cls ∧ (∀ w ∈ lw_tbl, w.before #[Value.ref b] s = true) ∧ va_X b L xs s s.heap ∧ b < s.heap.size ∧ meth.locks = false ∧ (Jvm.Cond.and given_1 narrow_1).before #[Value.ref b] s = true
theorem tb9_66 : (Jvm.Cond.instantiable "LorryArms$Gate" (4 : Nat)) ∈ lw_tbl := List.mem_of_getElem? (i := 66) (by decide +kernel)
theorem tb9_73 : (Jvm.Cond.instantiable "LorryArms$Lane" (17 : Nat)) ∈ lw_tbl := List.mem_of_getElem? (i := 73) (by decide +kernel)
theorem tb9_58 : (Jvm.Cond.instantiable "LorryArms" (9 : Nat)) ∈ lw_tbl := List.mem_of_getElem? (i := 58) (by decide +kernel)
theorem tb9_727 : (Jvm.Cond.instantiable "LorryArmsModel" (13 : Nat)) ∈ lw_tbl := List.mem_of_getElem? (i := 727) (by decide +kernel)
theorem tb9_142 : (Jvm.Cond.arrayClass Jvm.ClassFile.FieldType.int) ∈ lw_tbl := List.mem_of_getElem? (i := 142) (by decide +kernel)
theorem tb9_143 : (Jvm.Cond.arrayClass Jvm.ClassFile.FieldType.boolean) ∈ lw_tbl := List.mem_of_getElem? (i := 143) (by decide +kernel)
theorem tb9_141 : (Jvm.Cond.arrayClass Jvm.ClassFile.FieldType.char) ∈ lw_tbl := List.mem_of_getElem? (i := 141) (by decide +kernel)
theorem tb9_1037 : (Jvm.Cond.arrayClass Jvm.ClassFile.FieldType.long) ∈ lw_tbl := List.mem_of_getElem? (i := 1037) (by decide +kernel)
theorem tb9_72 : (Jvm.Cond.arrayOver (Jvm.ClassFile.FieldType.object "LorryArms$Lane")) ∈ lw_tbl := List.mem_of_getElem? (i := 72) (by decide +kernel)
theorem tb9_165 : (Jvm.Cond.arrayOver (Jvm.ClassFile.FieldType.object "LorryArms$Gate")) ∈ lw_tbl := List.mem_of_getElem? (i := 165) (by decide +kernel)
theorem tb9_49 : (Jvm.Cond.initialized "java/lang/Throwable") ∈ lw_tbl := List.mem_of_getElem? (i := 49) (by decide +kernel)
theorem tb9_265 : (Jvm.Cond.laysStatic "java/lang/Throwable" "UNASSIGNED_STACK" "[Ljava/lang/StackTraceElement;") ∈ lw_tbl := List.mem_of_getElem? (i := 265) (by decide +kernel)
theorem nr9_4 : (Jvm.Cond.isRef (Jvm.Term.static "java/lang/Throwable" "UNASSIGNED_STACK" "[Ljava/lang/StackTraceElement;")) ∈ flatC (Jvm.Cond.and given_1 narrow_1) := List.mem_of_getElem? (i := 4) (by decide +kernel)
theorem tb9_267 : (Jvm.Cond.laysStatic "java/lang/Throwable" "SUPPRESSED_SENTINEL" "Ljava/util/List;") ∈ lw_tbl := List.mem_of_getElem? (i := 267) (by decide +kernel)
theorem nr9_5 : (Jvm.Cond.isRef (Jvm.Term.static "java/lang/Throwable" "SUPPRESSED_SENTINEL" "Ljava/util/List;")) ∈ flatC (Jvm.Cond.and given_1 narrow_1) := List.mem_of_getElem? (i := 5) (by decide +kernel)
theorem tb9_279 : (Jvm.Cond.stringRef "LorryArms" (46 : Nat) "a character code is 0 to 255") ∈ lw_tbl := List.mem_of_getElem? (i := 279) (by decide +kernel)
theorem nr9_40 : (Jvm.Cond.exactly (Jvm.Term.string "LorryArms" (46 : Nat)) "java/lang/String") ∈ flatC (Jvm.Cond.and given_1 narrow_1) := List.mem_of_getElem? (i := 40) (by decide +kernel)
theorem tb9_315 : (Jvm.Cond.stringRef "LorryArms" (53 : Nat) "the text is full") ∈ lw_tbl := List.mem_of_getElem? (i := 315) (by decide +kernel)
theorem nr9_72 : (Jvm.Cond.exactly (Jvm.Term.string "LorryArms" (53 : Nat)) "java/lang/String") ∈ flatC (Jvm.Cond.and given_1 narrow_1) := List.mem_of_getElem? (i := 72) (by decide +kernel)
theorem tb9_330 : (Jvm.Cond.stringRef "LorryArms" (70 : Nat) "the text is not a gate") ∈ lw_tbl := List.mem_of_getElem? (i := 330) (by decide +kernel)
theorem nr9_93 : (Jvm.Cond.exactly (Jvm.Term.string "LorryArms" (70 : Nat)) "java/lang/String") ∈ flatC (Jvm.Cond.and given_1 narrow_1) := List.mem_of_getElem? (i := 93) (by decide +kernel)
theorem tb9_458 : (Jvm.Cond.stringRef "LorryArms" (127 : Nat) "what is 0 to 9") ∈ lw_tbl := List.mem_of_getElem? (i := 458) (by decide +kernel)
theorem nr9_121 : (Jvm.Cond.exactly (Jvm.Term.string "LorryArms" (127 : Nat)) "java/lang/String") ∈ flatC (Jvm.Cond.and given_1 narrow_1) := List.mem_of_getElem? (i := 121) (by decide +kernel)
theorem tb9_489 : (Jvm.Cond.stringRef "LorryArms" (177 : Nat) "there is no such lane") ∈ lw_tbl := List.mem_of_getElem? (i := 489) (by decide +kernel)
theorem nr9_142 : (Jvm.Cond.exactly (Jvm.Term.string "LorryArms" (177 : Nat)) "java/lang/String") ∈ flatC (Jvm.Cond.and given_1 narrow_1) := List.mem_of_getElem? (i := 142) (by decide +kernel)
theorem tb9_496 : (Jvm.Cond.stringRef "LorryArms" (142 : Nat) "what is 0 to 7") ∈ lw_tbl := List.mem_of_getElem? (i := 496) (by decide +kernel)
theorem nr9_171 : (Jvm.Cond.exactly (Jvm.Term.string "LorryArms" (142 : Nat)) "java/lang/String") ∈ flatC (Jvm.Cond.and given_1 narrow_1) := List.mem_of_getElem? (i := 171) (by decide +kernel)
theorem tb9_520 : (Jvm.Cond.stringRef "LorryArms" (183 : Nat) "there is no such vehicle") ∈ lw_tbl := List.mem_of_getElem? (i := 520) (by decide +kernel)
theorem nr9_194 : (Jvm.Cond.exactly (Jvm.Term.string "LorryArms" (183 : Nat)) "java/lang/String") ∈ flatC (Jvm.Cond.and given_1 narrow_1) := List.mem_of_getElem? (i := 194) (by decide +kernel)
theorem tb9_521 : (Jvm.Cond.stringRef "LorryArms" (157 : Nat) "what is 0 to 4") ∈ lw_tbl := List.mem_of_getElem? (i := 521) (by decide +kernel)
theorem nr9_228 : (Jvm.Cond.exactly (Jvm.Term.string "LorryArms" (157 : Nat)) "java/lang/String") ∈ flatC (Jvm.Cond.and given_1 narrow_1) := List.mem_of_getElem? (i := 228) (by decide +kernel)
theorem tb9_542 : (Jvm.Cond.stringRef "LorryArms" (166 : Nat) "a setting is 0 to 2") ∈ lw_tbl := List.mem_of_getElem? (i := 542) (by decide +kernel)
theorem nr9_253 : (Jvm.Cond.exactly (Jvm.Term.string "LorryArms" (166 : Nat)) "java/lang/String") ∈ flatC (Jvm.Cond.and given_1 narrow_1) := List.mem_of_getElem? (i := 253) (by decide +kernel)
theorem tb9_550 : (Jvm.Cond.stringRef "LorryArms" (187 : Nat) "there are 3 lanes") ∈ lw_tbl := List.mem_of_getElem? (i := 550) (by decide +kernel)
theorem nr9_284 : (Jvm.Cond.exactly (Jvm.Term.string "LorryArms" (187 : Nat)) "java/lang/String") ∈ flatC (Jvm.Cond.and given_1 narrow_1) := List.mem_of_getElem? (i := 284) (by decide +kernel)
theorem tb9_576 : (Jvm.Cond.stringRef "LorryArms" (185 : Nat) "a length is 2 to 12") ∈ lw_tbl := List.mem_of_getElem? (i := 576) (by decide +kernel)
theorem nr9_314 : (Jvm.Cond.exactly (Jvm.Term.string "LorryArms" (185 : Nat)) "java/lang/String") ∈ flatC (Jvm.Cond.and given_1 narrow_1) := List.mem_of_getElem? (i := 314) (by decide +kernel)
theorem tb9_577 : (Jvm.Cond.stringRef "LorryArms" (198 : Nat) "there are 6 vehicles in the lane") ∈ lw_tbl := List.mem_of_getElem? (i := 577) (by decide +kernel)
theorem nr9_347 : (Jvm.Cond.exactly (Jvm.Term.string "LorryArms" (198 : Nat)) "java/lang/String") ∈ flatC (Jvm.Cond.and given_1 narrow_1) := List.mem_of_getElem? (i := 347) (by decide +kernel)
theorem tb9_593 : (Jvm.Cond.stringRef "LorryArms" (203 : Nat) "the arm is whole, or a vehicle is under it") ∈ lw_tbl := List.mem_of_getElem? (i := 593) (by decide +kernel)
theorem nr9_394 : (Jvm.Cond.exactly (Jvm.Term.string "LorryArms" (203 : Nat)) "java/lang/String") ∈ flatC (Jvm.Cond.and given_1 narrow_1) := List.mem_of_getElem? (i := 394) (by decide +kernel)
theorem tb9_601 : (Jvm.Cond.stringRef "LorryArms" (208 : Nat) "a run is 1 to 60 ticks") ∈ lw_tbl := List.mem_of_getElem? (i := 601) (by decide +kernel)
theorem nr9_452 : (Jvm.Cond.exactly (Jvm.Term.string "LorryArms" (208 : Nat)) "java/lang/String") ∈ flatC (Jvm.Cond.and given_1 narrow_1) := List.mem_of_getElem? (i := 452) (by decide +kernel)
theorem tb9_612 : (Jvm.Cond.stringRef "LorryArms" (213 : Nat) "no setting, or a value out of its range") ∈ lw_tbl := List.mem_of_getElem? (i := 612) (by decide +kernel)
theorem nr9_491 : (Jvm.Cond.exactly (Jvm.Term.string "LorryArms" (213 : Nat)) "java/lang/String") ∈ flatC (Jvm.Cond.and given_1 narrow_1) := List.mem_of_getElem? (i := 491) (by decide +kernel)
theorem tb9_625 : (Jvm.Cond.stringRef "LorryArms" (218 : Nat) "no state is remembered") ∈ lw_tbl := List.mem_of_getElem? (i := 625) (by decide +kernel)
theorem nr9_548 : (Jvm.Cond.exactly (Jvm.Term.string "LorryArms" (218 : Nat)) "java/lang/String") ∈ flatC (Jvm.Cond.and given_1 narrow_1) := List.mem_of_getElem? (i := 548) (by decide +kernel)
theorem tb9_663 : (Jvm.Cond.stringRef "LorryArms" (231 : Nat) "n is 1 to 400") ∈ lw_tbl := List.mem_of_getElem? (i := 663) (by decide +kernel)
theorem nr9_589 : (Jvm.Cond.exactly (Jvm.Term.string "LorryArms" (231 : Nat)) "java/lang/String") ∈ flatC (Jvm.Cond.and given_1 narrow_1) := List.mem_of_getElem? (i := 589) (by decide +kernel)
theorem tb9_682 : (Jvm.Cond.stringRef "LorryArms" (245 : Nat) "a script has 1 to 3 commands") ∈ lw_tbl := List.mem_of_getElem? (i := 682) (by decide +kernel)
theorem nr9_622 : (Jvm.Cond.exactly (Jvm.Term.string "LorryArms" (245 : Nat)) "java/lang/String") ∈ flatC (Jvm.Cond.and given_1 narrow_1) := List.mem_of_getElem? (i := 622) (by decide +kernel)
theorem tb9_687 : (Jvm.Cond.stringRef "LorryArms" (251 : Nat) "the script is negative or too long") ∈ lw_tbl := List.mem_of_getElem? (i := 687) (by decide +kernel)
theorem nr9_671 : (Jvm.Cond.exactly (Jvm.Term.string "LorryArms" (251 : Nat)) "java/lang/String") ∈ flatC (Jvm.Cond.and given_1 narrow_1) := List.mem_of_getElem? (i := 671) (by decide +kernel)
theorem tb9_699 : (Jvm.Cond.stringRef "LorryArms" (258 : Nat) "m is 1 to 60") ∈ lw_tbl := List.mem_of_getElem? (i := 699) (by decide +kernel)
theorem nr9_727 : (Jvm.Cond.exactly (Jvm.Term.string "LorryArms" (258 : Nat)) "java/lang/String") ∈ flatC (Jvm.Cond.and given_1 narrow_1) := List.mem_of_getElem? (i := 727) (by decide +kernel)
theorem tb9_717 : (Jvm.Cond.stringRef "LorryArms" (277 : Nat) "a save slot is 0 or 1") ∈ lw_tbl := List.mem_of_getElem? (i := 717) (by decide +kernel)
theorem nr9_762 : (Jvm.Cond.exactly (Jvm.Term.string "LorryArms" (277 : Nat)) "java/lang/String") ∈ flatC (Jvm.Cond.and given_1 narrow_1) := List.mem_of_getElem? (i := 762) (by decide +kernel)
theorem tb9_725 : (Jvm.Cond.stringRef "LorryArms" (275 : Nat) "nothing has been saved in this slot") ∈ lw_tbl := List.mem_of_getElem? (i := 725) (by decide +kernel)
theorem nr9_807 : (Jvm.Cond.exactly (Jvm.Term.string "LorryArms" (275 : Nat)) "java/lang/String") ∈ flatC (Jvm.Cond.and given_1 narrow_1) := List.mem_of_getElem? (i := 807) (by decide +kernel)
theorem tb9_240 : (Jvm.Cond.castable "java/lang/IllegalArgumentException" "java/lang/IllegalArgumentException") ∈ lw_tbl := List.mem_of_getElem? (i := 240) (by decide +kernel)
theorem tb9_308 : (Jvm.Cond.castable "java/lang/IllegalStateException" "java/lang/IllegalStateException") ∈ lw_tbl := List.mem_of_getElem? (i := 308) (by decide +kernel)
theorem tb9_482 : (Jvm.Cond.castable "java/lang/IndexOutOfBoundsException" "java/lang/IndexOutOfBoundsException") ∈ lw_tbl := List.mem_of_getElem? (i := 482) (by decide +kernel)
theorem nr9_16 : (Jvm.Cond.not (Jvm.Cond.castable "java/lang/IllegalArgumentException" "java/lang/IllegalStateException")) ∈ flatC (Jvm.Cond.and given_1 narrow_1) := List.mem_of_getElem? (i := 16) (by decide +kernel)
theorem nr9_22 : (Jvm.Cond.not (Jvm.Cond.castable "java/lang/IllegalArgumentException" "java/lang/IndexOutOfBoundsException")) ∈ flatC (Jvm.Cond.and given_1 narrow_1) := List.mem_of_getElem? (i := 22) (by decide +kernel)
theorem nr9_10 : (Jvm.Cond.not (Jvm.Cond.castable "java/lang/IllegalStateException" "java/lang/IllegalArgumentException")) ∈ flatC (Jvm.Cond.and given_1 narrow_1) := List.mem_of_getElem? (i := 10) (by decide +kernel)
theorem nr9_23 : (Jvm.Cond.not (Jvm.Cond.castable "java/lang/IllegalStateException" "java/lang/IndexOutOfBoundsException")) ∈ flatC (Jvm.Cond.and given_1 narrow_1) := List.mem_of_getElem? (i := 23) (by decide +kernel)
theorem nr9_11 : (Jvm.Cond.not (Jvm.Cond.castable "java/lang/IndexOutOfBoundsException" "java/lang/IllegalArgumentException")) ∈ flatC (Jvm.Cond.and given_1 narrow_1) := List.mem_of_getElem? (i := 11) (by decide +kernel)
theorem nr9_17 : (Jvm.Cond.not (Jvm.Cond.castable "java/lang/IndexOutOfBoundsException" "java/lang/IllegalStateException")) ∈ flatC (Jvm.Cond.and given_1 narrow_1) := List.mem_of_getElem? (i := 17) (by decide +kernel)
theorem tb9_617 : (Jvm.Cond.methodLinkNest "LorryArms$Gate" (66 : Nat) ({ cls := "LorryArms", name := "isSetting", desc := "(II)Z" } : Jvm.MethodName) "LorryArms") ∈ lw_tbl := List.mem_of_getElem? (i := 617) (by decide +kernel)
theorem tb9_242 : (Jvm.Cond.declares ({ cls := "java/lang/RuntimeException", name := "<init>", desc := "(Ljava/lang/String;)V" } : Jvm.MethodName)) ∈ lw_tbl := List.mem_of_getElem? (i := 242) (by decide +kernel)
theorem tb9_244 : (Jvm.Cond.declares ({ cls := "java/lang/Exception", name := "<init>", desc := "(Ljava/lang/String;)V" } : Jvm.MethodName)) ∈ lw_tbl := List.mem_of_getElem? (i := 244) (by decide +kernel)
theorem tb9_246 : (Jvm.Cond.declares ({ cls := "java/lang/Throwable", name := "<init>", desc := "(Ljava/lang/String;)V" } : Jvm.MethodName)) ∈ lw_tbl := List.mem_of_getElem? (i := 246) (by decide +kernel)
theorem str9 {args : Array Value} {s : State} {own tx : String} {k : Nat} (h1 : (Cond.stringRef own k tx).before args s = true) (h2 : (Cond.exactly (Term.string own k) "java/lang/String").before args s = true) : ∃ sa, vk_R own k tx sa s := by
  obtain ⟨a, c, cell, k9, e9, -⟩ := Cond.exactly_spec h2
  exact ⟨a, vk_R.of h1 e9⟩
theorem ev9_of {p : Program} {s : State} {m : MethodId} {meth : Method} {c : Code} {b L : Nat} {xs : Nat → Int32} (C0 : lw_At p s m meth c b L xs) : ∃ (D : va_G) (ca : Nat → ClassId), EV9 (s.heap.size, 0, fun _ => (0, 0)) (b, L, xs, D, ca) s := by
  obtain ⟨hx, hb, hr, hml, hown, hts, hX, hbl, hlocks, hgv⟩ := C0
  have hg : ∀ w ∈ gw9, w.before #[Value.ref b] s = true := fun w hw => hts w (List.mem_filter.mp hw).1
  have hn := flat_of_before _ hgv
  obtain ⟨c0, i0, k0⟩ := u_known (C := RX0) (T := TX0) (N := 4) hg inG_X0 (hts _ tb9_66)
  obtain ⟨c1, i1, k1⟩ := u_known (C := RX1) (T := TX1) (N := 17) hg inG_X1 (hts _ tb9_73)
  obtain ⟨c2, i2, k2⟩ := u_known (C := RX2) (T := TX2) (N := 9) hg inG_X2 (hts _ tb9_58)
  obtain ⟨c3, i3, k3⟩ := u_known (C := RX3) (T := TX3) (N := 13) hg inG_X3 (hts _ tb9_727)
  obtain ⟨a0, kA0, cp0, p0, q0, r0⟩ := Cond.arrayClass_spec (hts _ tb9_142)
  obtain ⟨a1, kA1, cp1, p1, q1, r1⟩ := Cond.arrayClass_spec (hts _ tb9_143)
  obtain ⟨a2, kA2, cp2, p2, q2, r2⟩ := Cond.arrayClass_spec (hts _ tb9_141)
  obtain ⟨a3, kA3, cp3, p3, q3, r3⟩ := Cond.arrayClass_spec (hts _ tb9_1037)
  obtain ⟨cp4, a4, kA4, p4, -, q4, r4, t4⟩ := Cond.arrayOver_spec (hts _ tb9_72)
  obtain ⟨cp5, a5, kA5, p5, -, q5, r5, t5⟩ := Cond.arrayOver_spec (hts _ tb9_165)
  have hK : va_K (fun k => if k = 0 then c0 else if k = 1 then c1 else if k = 2 then c2 else c3, fun k => if k = 0 then i0 else if k = 1 then i1 else if k = 2 then i2 else i3) vwCl (tys9 (fun k => if k = 0 then a0 else if k = 1 then a1 else if k = 2 then a2 else if k = 3 then a3 else if k = 4 then a4 else a5)) s := by
    refine ⟨fun k q hq => ?_, fun k q hq => ?_⟩
    · match k, hq with
      | 0, hq => cases hq; exact k0
      | 1, hq => cases hq; exact k1
      | 2, hq => cases hq; exact k2
      | 3, hq => cases hq; exact k3
      | k + 4, hq => simp [vwCl] at hq
    · match k, hq with
      | 0, hq => cases hq; exact ⟨fun n z => ⟨(fun k h => by cases h), kA0, q0, cp0, r0⟩, p0⟩
      | 1, hq => cases hq; exact ⟨fun n z => ⟨(fun k h => by cases h), kA1, q1, cp1, r1⟩, p1⟩
      | 2, hq => cases hq; exact ⟨fun n z => ⟨(fun k h => by cases h), kA2, q2, cp2, r2⟩, p2⟩
      | 3, hq => cases hq; exact ⟨fun n z => ⟨(fun k h => by cases h), kA3, q3, cp3, r3⟩, p3⟩
      | 4, hq => cases hq; exact ⟨fun n z => ⟨(fun k h => by cases h), kA4, q4, cp4, r4⟩, kA4, cp4, q4, r4, p4, t4⟩
      | 5, hq => cases hq; exact ⟨fun n z => ⟨(fun k h => by cases h), kA5, q5, cp5, r5⟩, kA5, cp5, q5, r5, p5, t5⟩
      | k + 6, hq => simp [tys9] at hq
  have s0 := str9 (hts _ tb9_279) (hn _ nr9_40)
  have s1 := str9 (hts _ tb9_315) (hn _ nr9_72)
  have s2 := str9 (hts _ tb9_330) (hn _ nr9_93)
  have s3 := str9 (hts _ tb9_458) (hn _ nr9_121)
  have s4 := str9 (hts _ tb9_489) (hn _ nr9_142)
  have s5 := str9 (hts _ tb9_496) (hn _ nr9_171)
  have s6 := str9 (hts _ tb9_520) (hn _ nr9_194)
  have s7 := str9 (hts _ tb9_521) (hn _ nr9_228)
  have s8 := str9 (hts _ tb9_542) (hn _ nr9_253)
  have s9 := str9 (hts _ tb9_550) (hn _ nr9_284)
  have s10 := str9 (hts _ tb9_576) (hn _ nr9_314)
  have s11 := str9 (hts _ tb9_577) (hn _ nr9_347)
  have s12 := str9 (hts _ tb9_593) (hn _ nr9_394)
  have s13 := str9 (hts _ tb9_601) (hn _ nr9_452)
  have s14 := str9 (hts _ tb9_612) (hn _ nr9_491)
  have s15 := str9 (hts _ tb9_625) (hn _ nr9_548)
  have s16 := str9 (hts _ tb9_663) (hn _ nr9_589)
  have s17 := str9 (hts _ tb9_682) (hn _ nr9_622)
  have s18 := str9 (hts _ tb9_687) (hn _ nr9_671)
  have s19 := str9 (hts _ tb9_699) (hn _ nr9_727)
  have s20 := str9 (hts _ tb9_717) (hn _ nr9_762)
  have s21 := str9 (hts _ tb9_725) (hn _ nr9_807)
  refine ⟨_, _, hK, hX, hbl, vx_Zqof (hts _ tb9_265) (hts _ tb9_49) (hn _ nr9_4) (fun a h => Nat.not_le.mpr h), vx_Zqof (hts _ tb9_267) (hts _ tb9_49) (hn _ nr9_5) (fun a h => Nat.not_le.mpr h), List.forall_mem_cons.mpr ⟨s0, List.forall_mem_cons.mpr ⟨s1, List.forall_mem_cons.mpr ⟨s2, List.forall_mem_cons.mpr ⟨s3, List.forall_mem_cons.mpr ⟨s4, List.forall_mem_cons.mpr ⟨s5, List.forall_mem_cons.mpr ⟨s6, List.forall_mem_cons.mpr ⟨s7, List.forall_mem_cons.mpr ⟨s8, List.forall_mem_cons.mpr ⟨s9, List.forall_mem_cons.mpr ⟨s10, List.forall_mem_cons.mpr ⟨s11, List.forall_mem_cons.mpr ⟨s12, List.forall_mem_cons.mpr ⟨s13, List.forall_mem_cons.mpr ⟨s14, List.forall_mem_cons.mpr ⟨s15, List.forall_mem_cons.mpr ⟨s16, List.forall_mem_cons.mpr ⟨s17, List.forall_mem_cons.mpr ⟨s18, List.forall_mem_cons.mpr ⟨s19, List.forall_mem_cons.mpr ⟨s20, List.forall_mem_cons.mpr ⟨s21, fun _ h => absurd h List.not_mem_nil⟩⟩⟩⟩⟩⟩⟩⟩⟩⟩⟩⟩⟩⟩⟩⟩⟩⟩⟩⟩⟩⟩, ?_, ?_, ?_, ?_, ?_⟩
  · exact List.forall_mem_cons.mpr ⟨va_Nw.of rfl (hts _ tb9_240), List.forall_mem_cons.mpr ⟨va_Nw.of rfl (hts _ tb9_308), List.forall_mem_cons.mpr ⟨va_Nw.of rfl (hts _ tb9_482), fun _ h => absurd h List.not_mem_nil⟩⟩⟩
  · intro E hE E2 hE2 hne
    simp only [excs9, List.mem_cons, List.not_mem_nil, or_false] at hE hE2
    rcases hE with rfl | rfl | rfl
    · rcases hE2 with rfl | rfl | rfl
      · exact absurd rfl hne
      · exact va_Nc.of (hn _ nr9_16)
      · exact va_Nc.of (hn _ nr9_22)
    · rcases hE2 with rfl | rfl | rfl
      · exact va_Nc.of (hn _ nr9_10)
      · exact absurd rfl hne
      · exact va_Nc.of (hn _ nr9_23)
    · rcases hE2 with rfl | rfl | rfl
      · exact va_Nc.of (hn _ nr9_11)
      · exact va_Nc.of (hn _ nr9_17)
      · exact absurd rfl hne
  · exact List.forall_mem_cons.mpr ⟨va_Nw.of rfl (hts _ tb9_617), fun _ h => absurd h List.not_mem_nil⟩
  · exact List.forall_mem_cons.mpr ⟨va_Nw.of rfl (hts _ tb9_242), List.forall_mem_cons.mpr ⟨va_Nw.of rfl (hts _ tb9_244), List.forall_mem_cons.mpr ⟨va_Nw.of rfl (hts _ tb9_246), fun _ h => absurd h List.not_mem_nil⟩⟩⟩
  · exact List.forall_mem_cons.mpr ⟨va_AO.of (hts _ tb9_72), List.forall_mem_cons.mpr ⟨va_AO.of (hts _ tb9_165), fun _ h => absurd h List.not_mem_nil⟩⟩
theorem whole_walk {p : Program} {e : Env} {s : State} {m : MethodId} {below : List Frame} {meth : Method} {c : Code} (l : Launch) (hflags : l.flags = flags0) {b L : Nat} {xs : Nat → Int32} (hf : ∃ M', fx9 (fun _ _ _ _ _ => none) (f_L_law_b23 (s.heap.size, 392, kd9) L xs) FU9 s.heap.size (s.heap.size + 383) (s.heap.size + 391) 0 (mem9 s.heap.size) = some (.inl (some (.int 1)), M')) (C0 : lw_At p s m meth c b L xs) : W p l e room_1 s m #[Value.ref b] below meth c s.heap [] 0 0 (lw_Z below #[Value.ref b] s) (entryFrame m ([Value.ref b] : List Value).toArray 7) := by
  obtain ⟨D, ca, hE⟩ := ev9_of C0
  obtain ⟨hx, hb, hr, hml, hown, hts, hX, hbl, hlocks, hgv⟩ := id C0
  obtain ⟨M', hM⟩ := hf
  have hg : ∀ w ∈ gw9, w.before #[Value.ref b] s = true := fun w hw => hts w (List.mem_filter.mp hw).1
  have hst : l.stackTraces = false := by unfold Launch.stackTraces; rw [hflags]; decide
  have hl := lv_entry ([.ref b]) (n := 7) (Nat.le_of_ble_eq_true rfl)
  rw [lg_entry_eq]
  generalize (lg_sl ([.ref b]) ++ List.replicate (7 - (lg_sl ([.ref b])).length) Slot.unset).toArray = ls at hl ⊢
  have hl : lv_has ls 7 [(0, .ref b)] := hl
  have hR : 11 ≤ room_1.frames ∧ 32 * 11 ≤ room_1.locals ∧ 601024 ≤ room_1.cells ∧ 7293034 ≤ room_1.slots := ⟨Nat.le_of_ble_eq_true rfl, Nat.le_of_ble_eq_true rfl, Nat.le_refl _, Nat.le_refl _⟩
  have Co : ∀ z : Sh9, z.1 = s.heap.size → OK9 z (b, L, xs, D, ca) (p, l, e, room_1, s, m, #[Value.ref b], below, meth, c, lw_Z below #[Value.ref b] s) o9 7 (601024, 7293034) cL_law RL 11 0 [] := fun z hz => ok9_o hx hb hml hown hg (EV9_sh hz hE) hR hst
  have C2 : OK9 (s.heap.size, 392, kd9) (b, L, xs, D, ca) (p, l, e, room_1, s, m, #[Value.ref b], below, meth, c, lw_Z below #[Value.ref b] s) (.inl (some (.int 1)), M') 7 (601024, 7293034) cL_law RL 11 2 [] := by
    refine ⟨hx, hb, hml, hown, hg, EV9_sh rfl hE, hR, hst, .inl rfl, ?_, ?_, ?_⟩
    · intro v i pc M κ H locs lsA hrt hd ho hκ hP hS
      have hv := (Prod.mk.inj ho).1
      have hv : some (Value.int 1) = v := Sum.inl.inj hv
      subst hv
      have hi : i = .ireturn := by
        rcases hrt with ⟨h, -⟩ | ⟨h, -⟩ | ⟨-, -, h⟩ | ⟨h, -⟩
        · omega
        · omega
        · exact h
        · omega
      subst hi
      refine va_forget (fun q hq => hS.2.2 q hq) ?_
      refine W.widen hκ.1 hκ.2 ?_
      have hPC := hP
      exact lw_ret hx hb hr hlocks hd
    · intro _ E q ce pc M κ H locs lsA rest hE ho
      cases (Prod.mk.inj ho).1
    · intro _ E pc M κ H locs lsA rest hT _ _ _ ho
      cases (Prod.mk.inj ho).1
  have hJ := law_entry (D := D) (ca := ca) (xs := xs) (L := L) (cm := (601024, 7293034)) hst rfl ⟨Nat.le_of_ble_eq_true rfl, Nat.le_of_ble_eq_true rfl⟩ Co (fun _ H locs lsA hP hS hls => ?_)
  · exact hJ rfl s.heap [] ls (fun k q h => by simp [WS9] at h) va_S.rf hl
  · exact t_L_law_l23 C2 ⟨Nat.zero_le _, Nat.zero_le _⟩ FU9 (392, 5185) (Nat.le_of_ble_eq_true rfl) (Nat.le_of_ble_eq_true rfl) s.heap.size (s.heap.size + 383) (s.heap.size + 391) 0 (mem9 s.heap.size) hM H locs lsA hP hS (lv_sub hls [0, 1, 2, 3, 4] rfl)
