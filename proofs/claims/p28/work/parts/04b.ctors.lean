theorem w9_41 : (Jvm.Cond.classLink "LorryArmsLaw" (8 : Nat) "LorryArms") ∈ gw9 := gw9_in 41 (by decide +kernel) rfl
theorem w9_42 : (Jvm.Cond.instantiable "LorryArms" (9 : Nat)) ∈ gw9 := gw9_in 42 (by decide +kernel) rfl
theorem w9_43 : (Jvm.Cond.methodLink "LorryArmsLaw" (182 : Nat) ({ cls := "LorryArms", name := "<init>", desc := "()V" } : Jvm.MethodName)) ∈ gw9 := gw9_in 43 (by decide +kernel) rfl
theorem w9_44 : (Jvm.Cond.instanceMethod ({ cls := "LorryArms", name := "<init>", desc := "()V" } : Jvm.MethodName)) ∈ gw9 := gw9_in 44 (by decide +kernel) rfl
theorem w9_45 : (Jvm.Cond.code ({ cls := "LorryArms", name := "<init>", desc := "()V" } : Jvm.MethodName) prog_1_method_1_code (2 : Nat) (Option.none : Option Jvm.ClassFile.FieldType)) ∈ gw9 := gw9_in 45 (by decide +kernel) rfl
theorem w9_46 : (Jvm.Cond.methodLink "LorryArms" (1 : Nat) ({ cls := "java/lang/Object", name := "<init>", desc := "()V" } : Jvm.MethodName)) ∈ gw9 := gw9_in 46 (by decide +kernel) rfl
theorem w9_47 : (Jvm.Cond.instanceMethod ({ cls := "java/lang/Object", name := "<init>", desc := "()V" } : Jvm.MethodName)) ∈ gw9 := gw9_in 47 (by decide +kernel) rfl
theorem w9_48 : (Jvm.Cond.code ({ cls := "java/lang/Object", name := "<init>", desc := "()V" } : Jvm.MethodName) object_method_1_code (1 : Nat) (Option.none : Option Jvm.ClassFile.FieldType)) ∈ gw9 := gw9_in 48 (by decide +kernel) rfl
theorem w9_49 : (Jvm.Cond.classLink "LorryArms" (17 : Nat) "LorryArms$Gate") ∈ gw9 := gw9_in 49 (by decide +kernel) rfl
theorem w9_50 : (Jvm.Cond.instantiable "LorryArms$Gate" (4 : Nat)) ∈ gw9 := gw9_in 50 (by decide +kernel) rfl
theorem w9_51 : (Jvm.Cond.methodLink "LorryArms" (19 : Nat) ({ cls := "LorryArms$Gate", name := "<init>", desc := "()V" } : Jvm.MethodName)) ∈ gw9 := gw9_in 51 (by decide +kernel) rfl
theorem w9_52 : (Jvm.Cond.instanceMethod ({ cls := "LorryArms$Gate", name := "<init>", desc := "()V" } : Jvm.MethodName)) ∈ gw9 := gw9_in 52 (by decide +kernel) rfl
theorem w9_53 : (Jvm.Cond.code ({ cls := "LorryArms$Gate", name := "<init>", desc := "()V" } : Jvm.MethodName) prog_2_method_1_code (2 : Nat) (Option.none : Option Jvm.ClassFile.FieldType)) ∈ gw9 := gw9_in 53 (by decide +kernel) rfl
theorem w9_54 : (Jvm.Cond.methodLink "LorryArms$Gate" (3 : Nat) ({ cls := "java/lang/Object", name := "<init>", desc := "()V" } : Jvm.MethodName)) ∈ gw9 := gw9_in 54 (by decide +kernel) rfl
theorem w9_55 : (Jvm.Cond.classLink "LorryArms$Gate" (9 : Nat) "LorryArms$Lane") ∈ gw9 := gw9_in 55 (by decide +kernel) rfl
theorem w9_57 : (Jvm.Cond.instantiable "LorryArms$Lane" (17 : Nat)) ∈ gw9 := gw9_in 57 (by decide +kernel) rfl
theorem w9_58 : (Jvm.Cond.methodLink "LorryArms$Gate" (21 : Nat) ({ cls := "LorryArms$Lane", name := "<init>", desc := "()V" } : Jvm.MethodName)) ∈ gw9 := gw9_in 58 (by decide +kernel) rfl
theorem w9_59 : (Jvm.Cond.instanceMethod ({ cls := "LorryArms$Lane", name := "<init>", desc := "()V" } : Jvm.MethodName)) ∈ gw9 := gw9_in 59 (by decide +kernel) rfl
theorem w9_60 : (Jvm.Cond.code ({ cls := "LorryArms$Lane", name := "<init>", desc := "()V" } : Jvm.MethodName) prog_3_method_1_code (1 : Nat) (Option.none : Option Jvm.ClassFile.FieldType)) ∈ gw9 := gw9_in 60 (by decide +kernel) rfl
theorem w9_61 : (Jvm.Cond.methodLink "LorryArms$Lane" (3 : Nat) ({ cls := "java/lang/Object", name := "<init>", desc := "()V" } : Jvm.MethodName)) ∈ gw9 := gw9_in 61 (by decide +kernel) rfl
theorem w9_62 : (Jvm.Cond.methodLink "LorryArms$Lane" (28 : Nat) ({ cls := "LorryArms$Lane", name := "clear", desc := "()V" } : Jvm.MethodName)) ∈ gw9 := gw9_in 62 (by decide +kernel) rfl
theorem w9_125 : (Jvm.Cond.arrayClass Jvm.ClassFile.FieldType.char) ∈ gw9 := gw9_in 125 (by decide +kernel) rfl
theorem w9_126 : (Jvm.Cond.arrayClass Jvm.ClassFile.FieldType.int) ∈ gw9 := gw9_in 126 (by decide +kernel) rfl
theorem w9_127 : (Jvm.Cond.arrayClass Jvm.ClassFile.FieldType.boolean) ∈ gw9 := gw9_in 127 (by decide +kernel) rfl
theorem w9_128 : (Jvm.Cond.methodLink "LorryArms$Gate" (22 : Nat) ({ cls := "LorryArms$Gate", name := "clear", desc := "()V" } : Jvm.MethodName)) ∈ gw9 := gw9_in 128 (by decide +kernel) rfl
theorem lv_X1_28 : LV9 RX1 28 1 yX1_clear cX1_clear 1 none 0 := ⟨by decide, ⟨_, _, rfl⟩, w9_62, w9_63, w9_64, w9_32, w9_65, ⟨by decide +kernel, by decide +kernel, by decide +kernel⟩, by decide⟩
theorem lv_X0_22 : LV9 RX0 22 0 yX0_clear cX0_clear 1 none 0 := ⟨by decide, ⟨_, _, rfl⟩, w9_128, w9_129, w9_130, w9_31, w9_131, ⟨by decide +kernel, by decide +kernel, by decide +kernel⟩, by decide⟩
/-- Lane.clear() on a new object -/
theorem clear1 {z : Sh9} {b : Nat} {M : Mem9} (h : okO9 z b 1) (hM : M b = fun _ => 0) : f_X1_clear z b M = some (.inl none, wr9 M b 8 48) := by
  unfold f_X1_clear
  simp only [pf9, pz9, if_pos h, b9, true_or, and_true, Option.bind_some, rv9]
  congr 2
  funext x k
  by_cases hx : x = b
  · subst hx
    simp only [wr9, hM, true_and]
    repeat' split
    all_goals first | rfl | (exfalso; omega)
  · simp [wr9, hx]
set_option maxRecDepth 20000 in
set_option maxHeartbeats 300000 in
theorem cn_X1 {a sb L : Nat} {xs : Nat → Int32} {D : va_G} {ca : Nat → ClassId} {l : Launch} {M : Mem9} {b : Nat} {KA KB : Nat → Nat × Nat} (hl : l.stackTraces = false) (hA : KA b = (30, 0)) (h1 : KA (b + 1) = (10, 6)) (h2 : KA (b + 2) = (10, 6)) (h3 : KA (b + 3) = (11, 6)) (h4 : KA (b + 4) = (11, 6)) (h5 : KA (b + 5) = (11, 6)) (hB : KB b = (1, 0)) (hAB : ∀ j, j ≠ b → KB j = KA j) (hM : ∀ j, b ≤ j → M (a + j) = fun _ => 0) : Cn9 l a (b + 1) (b + 6) KA KB (sb, L, xs, D, ca) yX1_init cX1_init 1 1 (a + b) (5, 30) M (wr9 M (a + b) 8 48) := by
  refine cn9_of (by decide +kernel) rfl hl rfl (by decide) (fun p e R s m args below meth c hsz hin hr hlocks C => ?_)
  have ha : a ≤ s.heap.size := by omega
  refine j_aload_n (pc := 0) (C _ rfl) dX1_init_0 rfl ?_
  refine jc_obj (pc := 1) (C _ rfl) dX1_init_1 w9_61 w9_47 w9_48 (Nat.le_of_ble_eq_true rfl) (by decide) ?_
  refine j_aload_n (pc := 4) (C _ rfl) dX1_init_4 rfl ?_
  refine j_bipush (pc := 5) (C _ rfl) dX1_init_5 (v := 6) rfl ?_
  refine jc_newa (pc := 7) (C _ rfl) dX1_init_7 (t := 0) (len := 6) (ty := .int) w9_126 rfl rfl (by show mk9 ca _ (M (a + (b + 1))) (KA (b + 1)) = _; rw [h1]; rfl) (fun cA => by rw [hM (b + 1) (by omega)]; rfl) (by decide) (by decide) (Nat.le_of_ble_eq_true rfl) (x' := 1) (y' := 6) rfl rfl ha (by show s.heap.size + 0 = _; omega) (Nat.le_of_ble_eq_true rfl) (Nat.le_of_ble_eq_true rfl) ?_
  refine jc_putF (i := b) (k9 := 0) (ty := .array .int) (K1 := (uk9 KA b 31)) (pc := 9) (C _ rfl) dX1_init_9 fl_X1_9 hin rfl rfl (by decide +kernel) rfl rfl (by omega) (by rw [hA]; rfl) (Nat.le_of_ble_eq_true rfl) rfl (by rw [uk9_eq]; rfl) (by intro j hj; rw [uk9_ne hj]) ?_
  refine j_aload_n (pc := 12) (C _ rfl) dX1_init_12 rfl ?_
  refine j_bipush (pc := 13) (C _ rfl) dX1_init_13 (v := 6) rfl ?_
  refine jc_newa (pc := 15) (C _ rfl) dX1_init_15 (t := 0) (len := 6) (ty := .int) w9_126 rfl rfl (by show mk9 ca _ (M (a + (b + 2))) (uk9 KA b 31 (b + 2)) = _; rw [uk9_ne (by omega), h2]; rfl) (fun cA => by rw [hM (b + 2) (by omega)]; rfl) (by decide) (by decide) (Nat.le_of_ble_eq_true rfl) (x' := 2) (y' := 12) rfl rfl ha (by show s.heap.size + 1 = _; omega) (Nat.le_of_ble_eq_true rfl) (Nat.le_of_ble_eq_true rfl) ?_
  refine jc_putF (i := b) (k9 := 1) (ty := .array .int) (K1 := (uk9 KA b 32)) (pc := 17) (C _ rfl) dX1_init_17 fl_X1_15 hin rfl rfl (by decide +kernel) rfl rfl (by omega) (by rw [uk9_eq]; rfl) (Nat.le_of_ble_eq_true rfl) rfl (by rw [uk9_eq]; rfl) (by intro j hj; rw [uk9_ne hj, uk9_ne hj]) ?_
  refine j_aload_n (pc := 20) (C _ rfl) dX1_init_20 rfl ?_
  refine j_bipush (pc := 21) (C _ rfl) dX1_init_21 (v := 6) rfl ?_
  refine jc_newa (pc := 23) (C _ rfl) dX1_init_23 (t := 1) (len := 6) (ty := .boolean) w9_127 rfl rfl (by show mk9 ca _ (M (a + (b + 3))) (uk9 KA b 32 (b + 3)) = _; rw [uk9_ne (by omega), h3]; rfl) (fun cA => by rw [hM (b + 3) (by omega)]; rfl) (by decide) (by decide) (Nat.le_of_ble_eq_true rfl) (x' := 3) (y' := 18) rfl rfl ha (by show s.heap.size + 2 = _; omega) (Nat.le_of_ble_eq_true rfl) (Nat.le_of_ble_eq_true rfl) ?_
  refine jc_putF (i := b) (k9 := 2) (ty := .array .boolean) (K1 := (uk9 KA b 33)) (pc := 25) (C _ rfl) dX1_init_25 fl_X1_18 hin rfl rfl (by decide +kernel) rfl rfl (by omega) (by rw [uk9_eq]; rfl) (Nat.le_of_ble_eq_true rfl) rfl (by rw [uk9_eq]; rfl) (by intro j hj; rw [uk9_ne hj, uk9_ne hj]) ?_
  refine j_aload_n (pc := 28) (C _ rfl) dX1_init_28 rfl ?_
  refine j_bipush (pc := 29) (C _ rfl) dX1_init_29 (v := 6) rfl ?_
  refine jc_newa (pc := 31) (C _ rfl) dX1_init_31 (t := 1) (len := 6) (ty := .boolean) w9_127 rfl rfl (by show mk9 ca _ (M (a + (b + 4))) (uk9 KA b 33 (b + 4)) = _; rw [uk9_ne (by omega), h4]; rfl) (fun cA => by rw [hM (b + 4) (by omega)]; rfl) (by decide) (by decide) (Nat.le_of_ble_eq_true rfl) (x' := 4) (y' := 24) rfl rfl ha (by show s.heap.size + 3 = _; omega) (Nat.le_of_ble_eq_true rfl) (Nat.le_of_ble_eq_true rfl) ?_
  refine jc_putF (i := b) (k9 := 3) (ty := .array .boolean) (K1 := (uk9 KA b 34)) (pc := 33) (C _ rfl) dX1_init_33 fl_X1_22 hin rfl rfl (by decide +kernel) rfl rfl (by omega) (by rw [uk9_eq]; rfl) (Nat.le_of_ble_eq_true rfl) rfl (by rw [uk9_eq]; rfl) (by intro j hj; rw [uk9_ne hj, uk9_ne hj]) ?_
  refine j_aload_n (pc := 36) (C _ rfl) dX1_init_36 rfl ?_
  refine j_bipush (pc := 37) (C _ rfl) dX1_init_37 (v := 6) rfl ?_
  refine jc_newa (pc := 39) (C _ rfl) dX1_init_39 (t := 1) (len := 6) (ty := .boolean) w9_127 rfl rfl (by show mk9 ca _ (M (a + (b + 5))) (uk9 KA b 34 (b + 5)) = _; rw [uk9_ne (by omega), h5]; rfl) (fun cA => by rw [hM (b + 5) (by omega)]; rfl) (by decide) (by decide) (Nat.le_of_ble_eq_true rfl) (x' := 5) (y' := 30) rfl rfl ha (by show s.heap.size + 4 = _; omega) (Nat.le_of_ble_eq_true rfl) (Nat.le_of_ble_eq_true rfl) ?_
  refine jc_putF (i := b) (k9 := 4) (ty := .array .boolean) (K1 := KB) (pc := 41) (C _ rfl) dX1_init_41 fl_X1_25 hin rfl rfl (by decide +kernel) rfl rfl (by omega) (by rw [uk9_eq]; rfl) (Nat.le_of_ble_eq_true rfl) rfl (by rw [hB]; rfl) (by intro j hj; rw [hAB j hj, uk9_ne hj]) ?_
  refine j_aload_n (pc := 44) (C _ rfl) dX1_init_44 rfl ?_
  refine jc_callV (pc := 45) (C _ rfl) dX1_init_45 lv_X1_28 rfl (Nat.le_of_ble_eq_true rfl) (Nat.le_of_ble_eq_true rfl) (by decide) ⟨Nat.le_refl _, Nat.le_refl _⟩ (M1 := wr9 M (a + b) 8 48) (fun l hl => sp_X1_clear (o := (.inl none, wr9 M (a + b) 8 48)) hl (clear1 ⟨by show a ≤ a + b; omega, by show a + b < a + (b + 6); omega, by show (KB (a + b - a)).1 = 1; rw [Nat.add_sub_cancel_left, hB]⟩ (hM b (Nat.le_refl b)))) ⟨by show a ≤ a + b; omega, by show a + b < a + (b + 6); omega, by show (KB (a + b - a)).1 = 1; rw [Nat.add_sub_cancel_left, hB]⟩ ?_
  exact jc_ret (pc := 48) (C _ rfl) hr hlocks dX1_init_48 ⟨Nat.le_refl _, Nat.le_refl _⟩
theorem clear0 {z : Sh9} {b : Nat} {M : Mem9} (h : okO9 z b 0) (h2 : z.1 ≤ b + 2 ∧ b + 2 < z.1 + z.2.1 ∧ z.2.2 (b + 2 - z.1) = (10, 3)) (hM : M b = fun _ => 0) : f_X0_clear z b M = some (.inl none, wr9 (wr9 (wr9 M (b + 2) 0 3) (b + 2) 1 12) (b + 2) 2 2) := by
  have e0 : okA9 z (b + 2) 10 0 := ⟨h2.1, h2.2.1, by rw [h2.2.2], by decide, by rw [h2.2.2]; decide⟩
  have e1 : okA9 z (b + 2) 10 1 := ⟨h2.1, h2.2.1, by rw [h2.2.2], by decide, by rw [h2.2.2]; decide⟩
  have e2 : okA9 z (b + 2) 10 2 := ⟨h2.1, h2.2.1, by rw [h2.2.2], by decide, by rw [h2.2.2]; decide⟩
  unfold f_X0_clear
  simp only [pf9, rf9, st9, if_pos h, if_pos e0, if_pos e1, if_pos e2, Option.bind_some, rv9]
  have k0 : (0 : Int32).toNatClampNeg = 0 := by decide
  have k1 : (1 : Int32).toNatClampNeg = 1 := by decide
  have k2 : (2 : Int32).toNatClampNeg = 2 := by decide
  rw [k0, k1, k2]
  have hz : wr9 (wr9 M b 2 0) b 3 0 = M := by
    funext x k
    simp only [wr9]
    repeat' split
    all_goals first | rfl | (rename_i q; rw [q.1, hM]) | (rename_i q _; rw [q.1, hM])
  rw [hz]
/-- what a new gate holds -/
def gm9 (M : Mem9) (b : Nat) : Mem9 := wr9 (wr9 (wr9 (wr9 (wr9 (wr9 M (b + 3) 8 48) (b + 9) 8 48) (b + 15) 8 48) (b + 2) 0 3) (b + 2) 1 12) (b + 2) 2 2
theorem gm9_ne {M : Mem9} {b x : Nat} (h : x < b ∨ b + 21 ≤ x) : gm9 M b x = M x := by
  unfold gm9
  rw [wr9_ne (by omega), wr9_ne (by omega), wr9_ne (by omega), wr9_ne (by omega), wr9_ne (by omega), wr9_ne (by omega)]
theorem gm9_at {M : Mem9} {b x : Nat} (h : x ≠ b + 2) (h1 : x ≠ b + 3) (h2 : x ≠ b + 9) (h3 : x ≠ b + 15) : gm9 M b x = M x := by
  unfold gm9
  rw [wr9_ne h, wr9_ne h, wr9_ne h, wr9_ne h3, wr9_ne h2, wr9_ne h1]
set_option maxRecDepth 20000 in
set_option maxHeartbeats 4000000 in
theorem cn_X0 {a sb L : Nat} {xs : Nat → Int32} {D : va_G} {ca : Nat → ClassId} {l : Launch} {M : Mem9} {g : Nat} {KA KB : Nat → Nat × Nat} (hl : l.stackTraces = false) (hKA : KA = (uk9 (uk9 (uk9 (uk9 (uk9 KB (g + 3) 30) (g + 9) 30) (g + 15) 30) (g + 1) 50) g 40)) (h0 : KB g = (0, 0)) (h1 : KB (g + 1) = (14, 3)) (h2 : KB (g + 2) = (10, 3)) (hl0_0 : KB (g + 3) = (1, 0)) (hl0_1 : KB (g + 4) = (10, 6)) (hl0_2 : KB (g + 5) = (10, 6)) (hl0_3 : KB (g + 6) = (11, 6)) (hl0_4 : KB (g + 7) = (11, 6)) (hl0_5 : KB (g + 8) = (11, 6)) (hl1_0 : KB (g + 9) = (1, 0)) (hl1_1 : KB (g + 10) = (10, 6)) (hl1_2 : KB (g + 11) = (10, 6)) (hl1_3 : KB (g + 12) = (11, 6)) (hl1_4 : KB (g + 13) = (11, 6)) (hl1_5 : KB (g + 14) = (11, 6)) (hl2_0 : KB (g + 15) = (1, 0)) (hl2_1 : KB (g + 16) = (10, 6)) (hl2_2 : KB (g + 17) = (10, 6)) (hl2_3 : KB (g + 18) = (11, 6)) (hl2_4 : KB (g + 19) = (11, 6)) (hl2_5 : KB (g + 20) = (11, 6)) (hM : ∀ j, g ≤ j → M (a + j) = fun _ => 0) : Cn9 l a (g + 1) (g + 21) KA KB (sb, L, xs, D, ca) yX0_init cX0_init 2 2 (a + g) (20, 147) M (gm9 M (a + g)) := by
  subst hKA
  refine cn9_of (by decide +kernel) rfl hl rfl (by decide) (fun p e R s m args below meth c hsz hin hr hlocks C => ?_)
  have ha : a ≤ s.heap.size := by omega
  refine j_aload_n (pc := 0) (C _ rfl) dX0_init_0 rfl ?_
  refine jc_obj (pc := 1) (C _ rfl) dX0_init_1 w9_54 w9_47 w9_48 (Nat.le_of_ble_eq_true rfl) (by decide) ?_
  refine j_aload_n (pc := 4) (C _ rfl) dX0_init_4 rfl ?_
  refine j_iconst (pc := 5) (C _ rfl) dX0_init_5 (v := 3) rfl ?_
  refine jc_anew (pc := 6) (C _ rfl) dX0_init_6 (t := 4) (len := 3) (Cn := "LorryArms$Lane") w9_55 (by decide +kernel) rfl (by show mk9 ca _ (M (a + (g + 1))) ((uk9 (uk9 (uk9 (uk9 (uk9 KB (g + 3) 30) (g + 9) 30) (g + 15) 30) (g + 1) 50) g 40) (g + 1)) = _; rw [show (uk9 (uk9 (uk9 (uk9 (uk9 KB (g + 3) 30) (g + 9) 30) (g + 15) 30) (g + 1) 50) g 40) (g + 1) = (50, 0) by simp [uk9]]; show (Sum.inl (ca 4, 3, Sum.inr (Sum.inr (Sum.inr (Sum.inr (fun k => if k < 50 - 50 then some (a + (g + 1) + 2 + 6 * k) else none))))) : va_E) = _; simp) (by decide) (by decide) (Nat.le_of_ble_eq_true rfl) (x' := 1) (y' := 3) rfl rfl ha (by show s.heap.size + 0 = _; omega) (Nat.le_of_ble_eq_true rfl) (Nat.le_of_ble_eq_true rfl) ?_
  refine jc_putF (i := g) (k9 := 0) (ty := .array (.object "LorryArms$Lane")) (K1 := (uk9 (uk9 (uk9 (uk9 (uk9 KB (g + 3) 30) (g + 9) 30) (g + 15) 30) (g + 1) 50) g 41)) (pc := 9) (C _ rfl) dX0_init_9 fl_X0_11 hin rfl rfl (by decide +kernel) rfl rfl (by omega) (by show mk9 ca _ (M (a + g)) ((uk9 (uk9 (uk9 (uk9 (uk9 KB (g + 3) 30) (g + 9) 30) (g + 15) 30) (g + 1) 50) g 40) g) = _; rw [show (uk9 (uk9 (uk9 (uk9 (uk9 KB (g + 3) 30) (g + 9) 30) (g + 15) 30) (g + 1) 50) g 40) g = (40, 0) by simp [uk9]]; rfl) (Nat.le_of_ble_eq_true rfl) rfl (by show mk9 ca _ (M (a + g)) ((uk9 (uk9 (uk9 (uk9 (uk9 KB (g + 3) 30) (g + 9) 30) (g + 15) 30) (g + 1) 50) g 41) g) = _; rw [show (uk9 (uk9 (uk9 (uk9 (uk9 KB (g + 3) 30) (g + 9) 30) (g + 15) 30) (g + 1) 50) g 41) g = (41, 0) by simp [uk9]]; rfl) (by intro j hj; simp [uk9, hj]) ?_
  refine j_aload_n (pc := 12) (C _ rfl) dX0_init_12 rfl ?_
  refine j_iconst (pc := 13) (C _ rfl) dX0_init_13 (v := 3) rfl ?_
  refine jc_newa (pc := 14) (C _ rfl) dX0_init_14 (t := 0) (len := 3) (ty := .int) w9_126 rfl rfl (by show mk9 ca _ (M (a + (g + 2))) ((uk9 (uk9 (uk9 (uk9 (uk9 KB (g + 3) 30) (g + 9) 30) (g + 15) 30) (g + 1) 50) g 41) (g + 2)) = _; rw [show (uk9 (uk9 (uk9 (uk9 (uk9 KB (g + 3) 30) (g + 9) 30) (g + 15) 30) (g + 1) 50) g 41) (g + 2) = (10, 3) by simp [uk9, h2]]; rfl) (fun cA => by rw [hM (g + 2) (by omega)]; rfl) (by decide) (by decide) (Nat.le_of_ble_eq_true rfl) (x' := 2) (y' := 6) rfl rfl ha (by show s.heap.size + 1 = _; omega) (Nat.le_of_ble_eq_true rfl) (Nat.le_of_ble_eq_true rfl) ?_
  refine jc_putF (i := g) (k9 := 1) (ty := .array .int) (K1 := (uk9 (uk9 (uk9 (uk9 KB (g + 3) 30) (g + 9) 30) (g + 15) 30) (g + 1) 50)) (pc := 16) (C _ rfl) dX0_init_16 fl_X0_17 hin rfl rfl (by decide +kernel) rfl rfl (by omega) (by show mk9 ca _ (M (a + g)) ((uk9 (uk9 (uk9 (uk9 (uk9 KB (g + 3) 30) (g + 9) 30) (g + 15) 30) (g + 1) 50) g 41) g) = _; rw [show (uk9 (uk9 (uk9 (uk9 (uk9 KB (g + 3) 30) (g + 9) 30) (g + 15) 30) (g + 1) 50) g 41) g = (41, 0) by simp [uk9]]; rfl) (Nat.le_of_ble_eq_true rfl) rfl (by show mk9 ca _ (M (a + g)) ((uk9 (uk9 (uk9 (uk9 KB (g + 3) 30) (g + 9) 30) (g + 15) 30) (g + 1) 50) g) = _; rw [show (uk9 (uk9 (uk9 (uk9 KB (g + 3) 30) (g + 9) 30) (g + 15) 30) (g + 1) 50) g = (0, 0) by simp [uk9, h0]]; rfl) (by intro j hj; simp [uk9, hj]) ?_
  refine j_iconst (pc := 19) (C _ rfl) dX0_init_19 (v := 0) rfl ?_
  refine j_istore_n (pc := 20) (C _ rfl) dX0_init_20 (Nat.le_of_ble_eq_true rfl) (ls' := [(1, .int 0), (0, .ref (a + g))]) rfl ?_
  refine j_iload_n (pc := 21) (C _ rfl) dX0_init_21 rfl ?_
  refine j_iconst (pc := 22) (C _ rfl) dX0_init_22 (v := 3) rfl ?_
  refine jc_ge_no (pc := 23) (C _ rfl) dX0_init_23 (tgt := 45) (by decide) (by decide) ?_
  refine j_aload_n (pc := 26) (C _ rfl) dX0_init_26 rfl ?_
  refine jc_get (i := g) (k9 := 0) (q := a + (g + 1)) (pc := 27) (C _ rfl) dX0_init_27 fl_X0_11 (by omega) (by show mk9 ca _ _ ((uk9 (uk9 (uk9 (uk9 KB (g + 3) 30) (g + 9) 30) (g + 15) 30) (g + 1) 50) g) = _; rw [show (uk9 (uk9 (uk9 (uk9 KB (g + 3) 30) (g + 9) 30) (g + 15) 30) (g + 1) 50) g = (0, 0) by simp [uk9, h0]]; rfl) rfl ?_
  refine j_iload_n (pc := 30) (C _ rfl) dX0_init_30 rfl ?_
  refine jc_new (pc := 31) (C _ rfl) dX0_init_31 w9_55 w9_57 w9_32 (ci := 1) (T9 := TX1) (Nf := 17) (ty := tyX1) rfl inG_X1 tyX1_ok (by show mk9 ca _ (M (a + (g + 3))) ((uk9 (uk9 (uk9 (uk9 KB (g + 3) 30) (g + 9) 30) (g + 15) 30) (g + 1) 50) (g + 3)) = _; rw [show (uk9 (uk9 (uk9 (uk9 KB (g + 3) 30) (g + 9) 30) (g + 15) 30) (g + 1) 50) (g + 3) = (30, 0) by simp [uk9], hM (g + 3) (by omega)]; rfl) (fun j hj => by rcases (show j = 0 ∨ j = 1 ∨ j = 2 ∨ j = 3 ∨ j = 4 ∨ j = 5 ∨ j = 6 ∨ j = 7 ∨ j = 8 ∨ j = 9 ∨ j = 10 ∨ j = 11 ∨ j = 12 ∨ j = 13 ∨ j = 14 ∨ j = 15 ∨ j = 16 by omega) with rfl | rfl | rfl | rfl | rfl | rfl | rfl | rfl | rfl | rfl | rfl | rfl | rfl | rfl | rfl | rfl | rfl <;> rfl) (x' := 3) (y' := 23) rfl rfl ha (by show s.heap.size + 2 = _; omega) (Nat.le_of_ble_eq_true rfl) (Nat.le_of_ble_eq_true rfl) ?_
  refine j_dup (pc := 34) (C _ rfl) dX0_init_34 rfl ?_
  refine jc_init (maxL := 1) (d' := 1) (mc := (5, 30)) (pc := 35) (C _ rfl) dX0_init_35 w9_58 w9_59 w9_32 w9_60 rfl ⟨by decide +kernel, by decide +kernel, by decide +kernel⟩ (by decide) (Nat.le_of_ble_eq_true rfl) (by decide) (x' := 8) (y' := 53) rfl rfl (Nat.le_of_ble_eq_true rfl) (Nat.le_of_ble_eq_true rfl) ha (by show s.heap.size + 3 = _; omega) (by omega) (cn_X1 (b := g + 3) (KA := (uk9 (uk9 (uk9 (uk9 KB (g + 3) 30) (g + 9) 30) (g + 15) 30) (g + 1) 50)) (KB := (uk9 (uk9 (uk9 KB (g + 9) 30) (g + 15) 30) (g + 1) 50)) hl (by simp [uk9]) (by simp [uk9, hl0_1]) (by simp [uk9, hl0_2]) (by simp [uk9, hl0_3]) (by simp [uk9, hl0_4]) (by simp [uk9, hl0_5]) (by simp [uk9, hl0_0]) (fun j hj => by simp [uk9, hj]) (fun j hj => hM j (by omega))) ?_
  refine jc_aast (i := g + 1) (j := g + 3) (t := 4) (ci := 1) (q9 := 0) (K1 := (uk9 (uk9 (uk9 KB (g + 9) 30) (g + 15) 30) (g + 1) 51)) (pc := 38) (C _ rfl) dX0_init_38 rfl rfl (by omega) (by omega) (by omega) (by show mk9 ca _ _ ((uk9 (uk9 (uk9 KB (g + 9) 30) (g + 15) 30) (g + 1) 50) (g + 1)) = _; rw [show (uk9 (uk9 (uk9 KB (g + 9) 30) (g + 15) 30) (g + 1) 50) (g + 1) = (50, 0) by simp [uk9]]; rfl) (by show mk9 ca _ _ ((uk9 (uk9 (uk9 KB (g + 9) 30) (g + 15) 30) (g + 1) 50) (g + 3)) = _; rw [show (uk9 (uk9 (uk9 KB (g + 9) 30) (g + 15) 30) (g + 1) 50) (g + 3) = (1, 0) by simp [uk9, hl0_0]]; rfl) (vp_in_nI (n := 0) (by decide) (by decide)) rfl (by show mk9 ca _ _ ((uk9 (uk9 (uk9 KB (g + 9) 30) (g + 15) 30) (g + 1) 51) (g + 1)) = _; rw [show (uk9 (uk9 (uk9 KB (g + 9) 30) (g + 15) 30) (g + 1) 51) (g + 1) = (51, 0) by simp [uk9]]; rfl) (by intro j hj; simp [uk9, hj]) (by intro k hk; rcases (show k = 0 ∨ k = 1 ∨ k = 2 by omega) with rfl | rfl | rfl <;> simp [va_up] <;> omega) ?_
  refine j_iinc (pc := 39) (C _ rfl) dX0_init_39 rfl (v := 1) rfl (Nat.le_of_ble_eq_true rfl) (ls' := [(1, .int 1), (0, .ref (a + g))]) rfl ?_
  refine j_goto (pc := 42) (C _ rfl) dX0_init_42 (tgt := 21) (by decide) ?_
  refine j_iload_n (pc := 21) (C _ rfl) dX0_init_21 rfl ?_
  refine j_iconst (pc := 22) (C _ rfl) dX0_init_22 (v := 3) rfl ?_
  refine jc_ge_no (pc := 23) (C _ rfl) dX0_init_23 (tgt := 45) (by decide) (by decide) ?_
  refine j_aload_n (pc := 26) (C _ rfl) dX0_init_26 rfl ?_
  refine jc_get (i := g) (k9 := 0) (q := a + (g + 1)) (pc := 27) (C _ rfl) dX0_init_27 fl_X0_11 (by omega) (by show mk9 ca _ _ ((uk9 (uk9 (uk9 KB (g + 9) 30) (g + 15) 30) (g + 1) 51) g) = _; rw [show (uk9 (uk9 (uk9 KB (g + 9) 30) (g + 15) 30) (g + 1) 51) g = (0, 0) by simp [uk9, h0]]; rfl) rfl ?_
  refine j_iload_n (pc := 30) (C _ rfl) dX0_init_30 rfl ?_
  refine jc_new (pc := 31) (C _ rfl) dX0_init_31 w9_55 w9_57 w9_32 (ci := 1) (T9 := TX1) (Nf := 17) (ty := tyX1) rfl inG_X1 tyX1_ok (by show mk9 ca _ ((wr9 M (a + (g + 3)) 8 48) (a + (g + 9))) ((uk9 (uk9 (uk9 KB (g + 9) 30) (g + 15) 30) (g + 1) 51) (g + 9)) = _; rw [show (uk9 (uk9 (uk9 KB (g + 9) 30) (g + 15) 30) (g + 1) 51) (g + 9) = (30, 0) by simp [uk9], show (wr9 M (a + (g + 3)) 8 48) (a + (g + 9)) = fun _ => 0 by simp only [wr9_ne (show a + (g + 9) ≠ a + (g + 3) by omega), hM (g + 9) (by omega)]]; rfl) (fun j hj => by rcases (show j = 0 ∨ j = 1 ∨ j = 2 ∨ j = 3 ∨ j = 4 ∨ j = 5 ∨ j = 6 ∨ j = 7 ∨ j = 8 ∨ j = 9 ∨ j = 10 ∨ j = 11 ∨ j = 12 ∨ j = 13 ∨ j = 14 ∨ j = 15 ∨ j = 16 by omega) with rfl | rfl | rfl | rfl | rfl | rfl | rfl | rfl | rfl | rfl | rfl | rfl | rfl | rfl | rfl | rfl | rfl <;> rfl) (x' := 9) (y' := 70) rfl rfl ha (by show s.heap.size + 8 = _; omega) (Nat.le_of_ble_eq_true rfl) (Nat.le_of_ble_eq_true rfl) ?_
  refine j_dup (pc := 34) (C _ rfl) dX0_init_34 rfl ?_
  refine jc_init (maxL := 1) (d' := 1) (mc := (5, 30)) (pc := 35) (C _ rfl) dX0_init_35 w9_58 w9_59 w9_32 w9_60 rfl ⟨by decide +kernel, by decide +kernel, by decide +kernel⟩ (by decide) (Nat.le_of_ble_eq_true rfl) (by decide) (x' := 14) (y' := 100) rfl rfl (Nat.le_of_ble_eq_true rfl) (Nat.le_of_ble_eq_true rfl) ha (by show s.heap.size + 9 = _; omega) (by omega) (cn_X1 (b := g + 9) (KA := (uk9 (uk9 (uk9 KB (g + 9) 30) (g + 15) 30) (g + 1) 51)) (KB := (uk9 (uk9 KB (g + 15) 30) (g + 1) 51)) hl (by simp [uk9]) (by simp [uk9, hl1_1]) (by simp [uk9, hl1_2]) (by simp [uk9, hl1_3]) (by simp [uk9, hl1_4]) (by simp [uk9, hl1_5]) (by simp [uk9, hl1_0]) (fun j hj => by simp [uk9, hj]) (fun j hj => by simp only [wr9_ne (show a + j ≠ a + (g + 3) by omega), hM j (by omega)])) ?_
  refine jc_aast (i := g + 1) (j := g + 9) (t := 4) (ci := 1) (q9 := 1) (K1 := (uk9 (uk9 KB (g + 15) 30) (g + 1) 52)) (pc := 38) (C _ rfl) dX0_init_38 rfl rfl (by omega) (by omega) (by omega) (by show mk9 ca _ _ ((uk9 (uk9 KB (g + 15) 30) (g + 1) 51) (g + 1)) = _; rw [show (uk9 (uk9 KB (g + 15) 30) (g + 1) 51) (g + 1) = (51, 0) by simp [uk9]]; rfl) (by show mk9 ca _ _ ((uk9 (uk9 KB (g + 15) 30) (g + 1) 51) (g + 9)) = _; rw [show (uk9 (uk9 KB (g + 15) 30) (g + 1) 51) (g + 9) = (1, 0) by simp [uk9, hl1_0]]; rfl) (vp_in_nI (n := 1) (by decide) (by decide)) rfl (by show mk9 ca _ _ ((uk9 (uk9 KB (g + 15) 30) (g + 1) 52) (g + 1)) = _; rw [show (uk9 (uk9 KB (g + 15) 30) (g + 1) 52) (g + 1) = (52, 0) by simp [uk9]]; rfl) (by intro j hj; simp [uk9, hj]) (by intro k hk; rcases (show k = 0 ∨ k = 1 ∨ k = 2 by omega) with rfl | rfl | rfl <;> simp [va_up] <;> omega) ?_
  refine j_iinc (pc := 39) (C _ rfl) dX0_init_39 rfl (v := 2) rfl (Nat.le_of_ble_eq_true rfl) (ls' := [(1, .int 2), (0, .ref (a + g))]) rfl ?_
  refine j_goto (pc := 42) (C _ rfl) dX0_init_42 (tgt := 21) (by decide) ?_
  refine j_iload_n (pc := 21) (C _ rfl) dX0_init_21 rfl ?_
  refine j_iconst (pc := 22) (C _ rfl) dX0_init_22 (v := 3) rfl ?_
  refine jc_ge_no (pc := 23) (C _ rfl) dX0_init_23 (tgt := 45) (by decide) (by decide) ?_
  refine j_aload_n (pc := 26) (C _ rfl) dX0_init_26 rfl ?_
  refine jc_get (i := g) (k9 := 0) (q := a + (g + 1)) (pc := 27) (C _ rfl) dX0_init_27 fl_X0_11 (by omega) (by show mk9 ca _ _ ((uk9 (uk9 KB (g + 15) 30) (g + 1) 52) g) = _; rw [show (uk9 (uk9 KB (g + 15) 30) (g + 1) 52) g = (0, 0) by simp [uk9, h0]]; rfl) rfl ?_
  refine j_iload_n (pc := 30) (C _ rfl) dX0_init_30 rfl ?_
  refine jc_new (pc := 31) (C _ rfl) dX0_init_31 w9_55 w9_57 w9_32 (ci := 1) (T9 := TX1) (Nf := 17) (ty := tyX1) rfl inG_X1 tyX1_ok (by show mk9 ca _ ((wr9 (wr9 M (a + (g + 3)) 8 48) (a + (g + 9)) 8 48) (a + (g + 15))) ((uk9 (uk9 KB (g + 15) 30) (g + 1) 52) (g + 15)) = _; rw [show (uk9 (uk9 KB (g + 15) 30) (g + 1) 52) (g + 15) = (30, 0) by simp [uk9], show (wr9 (wr9 M (a + (g + 3)) 8 48) (a + (g + 9)) 8 48) (a + (g + 15)) = fun _ => 0 by simp only [wr9_ne (show a + (g + 15) ≠ a + (g + 3) by omega), wr9_ne (show a + (g + 15) ≠ a + (g + 9) by omega), hM (g + 15) (by omega)]]; rfl) (fun j hj => by rcases (show j = 0 ∨ j = 1 ∨ j = 2 ∨ j = 3 ∨ j = 4 ∨ j = 5 ∨ j = 6 ∨ j = 7 ∨ j = 8 ∨ j = 9 ∨ j = 10 ∨ j = 11 ∨ j = 12 ∨ j = 13 ∨ j = 14 ∨ j = 15 ∨ j = 16 by omega) with rfl | rfl | rfl | rfl | rfl | rfl | rfl | rfl | rfl | rfl | rfl | rfl | rfl | rfl | rfl | rfl | rfl <;> rfl) (x' := 15) (y' := 117) rfl rfl ha (by show s.heap.size + 14 = _; omega) (Nat.le_of_ble_eq_true rfl) (Nat.le_of_ble_eq_true rfl) ?_
  refine j_dup (pc := 34) (C _ rfl) dX0_init_34 rfl ?_
  refine jc_init (maxL := 1) (d' := 1) (mc := (5, 30)) (pc := 35) (C _ rfl) dX0_init_35 w9_58 w9_59 w9_32 w9_60 rfl ⟨by decide +kernel, by decide +kernel, by decide +kernel⟩ (by decide) (Nat.le_of_ble_eq_true rfl) (by decide) (x' := 20) (y' := 147) rfl rfl (Nat.le_of_ble_eq_true rfl) (Nat.le_of_ble_eq_true rfl) ha (by show s.heap.size + 15 = _; omega) (by omega) (cn_X1 (b := g + 15) (KA := (uk9 (uk9 KB (g + 15) 30) (g + 1) 52)) (KB := (uk9 KB (g + 1) 52)) hl (by simp [uk9]) (by simp [uk9, hl2_1]) (by simp [uk9, hl2_2]) (by simp [uk9, hl2_3]) (by simp [uk9, hl2_4]) (by simp [uk9, hl2_5]) (by simp [uk9, hl2_0]) (fun j hj => by simp [uk9, hj]) (fun j hj => by simp only [wr9_ne (show a + j ≠ a + (g + 3) by omega), wr9_ne (show a + j ≠ a + (g + 9) by omega), hM j (by omega)])) ?_
  refine jc_aast (i := g + 1) (j := g + 15) (t := 4) (ci := 1) (q9 := 2) (K1 := KB) (pc := 38) (C _ rfl) dX0_init_38 rfl rfl (by omega) (by omega) (by omega) (by show mk9 ca _ _ ((uk9 KB (g + 1) 52) (g + 1)) = _; rw [show (uk9 KB (g + 1) 52) (g + 1) = (52, 0) by simp [uk9]]; rfl) (by show mk9 ca _ _ ((uk9 KB (g + 1) 52) (g + 15)) = _; rw [show (uk9 KB (g + 1) 52) (g + 15) = (1, 0) by simp [uk9, hl2_0]]; rfl) (vp_in_nI (n := 2) (by decide) (by decide)) rfl (by show mk9 ca _ _ (KB (g + 1)) = _; rw [show KB (g + 1) = (14, 3) by simp [uk9, h1]]; rfl) (by intro j hj; simp [uk9, hj]) (by intro k hk; rcases (show k = 0 ∨ k = 1 ∨ k = 2 by omega) with rfl | rfl | rfl <;> simp [va_up] <;> omega) ?_
  refine j_iinc (pc := 39) (C _ rfl) dX0_init_39 rfl (v := 3) rfl (Nat.le_of_ble_eq_true rfl) (ls' := [(1, .int 3), (0, .ref (a + g))]) rfl ?_
  refine j_goto (pc := 42) (C _ rfl) dX0_init_42 (tgt := 21) (by decide) ?_
  refine j_iload_n (pc := 21) (C _ rfl) dX0_init_21 rfl ?_
  refine j_iconst (pc := 22) (C _ rfl) dX0_init_22 (v := 3) rfl ?_
  refine jc_ge_yes (pc := 23) (C _ rfl) dX0_init_23 (tgt := 45) (by decide) (by decide) ?_
  refine j_aload_n (pc := 45) (C _ rfl) dX0_init_45 rfl ?_
  have hc : f_X0_clear (a, g + 21, KB) (a + g) (wr9 (wr9 (wr9 M (a + (g + 3)) 8 48) (a + (g + 9)) 8 48) (a + (g + 15)) 8 48) = some (.inl none, (gm9 M (a + g))) := clear0 ⟨by show a ≤ a + g; omega, by show a + g < a + (g + 21); omega, by show (KB (a + g - a)).1 = 0; rw [Nat.add_sub_cancel_left, h0]⟩ ⟨by show a ≤ a + g + 2; omega, by show a + g + 2 < a + (g + 21); omega, by show KB (a + g + 2 - a) = (10, 3); rw [show a + g + 2 - a = g + 2 by omega, h2]⟩ (by rw [wr9_ne (by omega), wr9_ne (by omega), wr9_ne (by omega), hM g (Nat.le_refl g)])
  refine jc_callV (pc := 46) (C _ rfl) dX0_init_46 lv_X0_22 rfl (Nat.le_of_ble_eq_true rfl) (Nat.le_of_ble_eq_true rfl) (by decide) ⟨Nat.le_refl _, Nat.le_refl _⟩ (M1 := (gm9 M (a + g))) (fun l hl => sp_X0_clear (o := (.inl none, (gm9 M (a + g)))) hl hc) ⟨by show a ≤ a + g; omega, by show a + g < a + (g + 21); omega, by show (KB (a + g - a)).1 = 0; rw [Nat.add_sub_cancel_left, h0]⟩ ?_
  exact jc_ret (pc := 49) (C _ rfl) hr hlocks dX0_init_49 ⟨Nat.le_refl _, Nat.le_refl _⟩
theorem jc_shape {a n : Nat} {K K' : Nat → Nat × Nat} {N : Nv9} {X : Cx9} {nL pc : Nat} {ls : List (Nat × Value)} {st : List Value} {M : Mem9} {κ : Ka9} (h : ∀ i, i < n → K' i = K i) (k : J9 (a, n, K') N X o9 nL pc ls st M κ (some o9)) : J9 (a, n, K) N X o9 nL pc ls st M κ (some o9) := by
  obtain ⟨p, l, e, R, s, m, args, below, meth, c, QQ⟩ := X
  intro hF H locs lsA hP hS hl
  exact k hF H locs lsA (PM9_congr h (fun _ _ => rfl) hP) hS hl
def gms9 (a : Nat) (M : Mem9) (l : List Nat) : Mem9 := l.foldl (fun M o => gm9 M (a + o)) M
theorem gms9_ne {a : Nat} {x : Nat} (l : List Nat) : ∀ {M : Mem9}, (∀ o ∈ l, x < a + o ∨ a + o + 21 ≤ x) → gms9 a M l x = M x := by
  induction l with
  | nil => intro M _; rfl
  | cons o l ih =>
    intro M h
    show gms9 a (gm9 M (a + o)) l x = M x
    rw [ih (fun o2 h2 => h o2 (List.mem_cons_of_mem _ h2))]
    exact gm9_ne (h o List.mem_cons_self)
theorem gms9_hi {a n j : Nat} {l : List Nat} {M : Mem9} (h : ∀ o ∈ l, o + 21 ≤ n) (hj : n ≤ j) (hM : M (a + j) = fun _ => 0) : gms9 a M l (a + j) = fun _ => 0 := by
  rw [gms9_ne l (fun o ho => Or.inr (by have := h o ho; omega)), hM]
theorem gms9_lo {a n : Nat} {l : List Nat} {M : Mem9} (h : ∀ o ∈ l, n < o) (hM : M (a + n) = fun _ => 0) : gms9 a M l (a + n) = fun _ => 0 := by
  rw [gms9_ne l (fun o ho => Or.inl (by have := h o ho; omega))]
  exact hM
