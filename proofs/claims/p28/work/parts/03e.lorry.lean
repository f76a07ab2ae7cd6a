def f_X2_about (z : Sh9) (a0 : Nat) (a1 : Int32) (M : Mem9) : Re9 :=
  (if a1 < 0 then (tx9 "java/lang/IllegalArgumentException" M) else (if a1 ≤ (9 : Int32) then (if a1 = 0 then ((rf9 z a0 2 2).bind fun v7 => ((gf9 z M v7 0 2).bind fun v8 => (ri9 v8 M))) else (if a1 = (1 : Int32) then ((rf9 z a0 2 2).bind fun v4 => ((gf9 z M v4 0 3).bind fun v5 => (ri9 v5 M))) else ((rf9 z a0 2 2).bind fun v1 => (bi9 (iv9 z v1 0 (f_X0_total z v1 a1 M)) fun v3 M2 => (ri9 v3 M2))))) else (tx9 "java/lang/IllegalArgumentException" M)))
set_option maxRecDepth 20000 in
set_option maxHeartbeats 4000000 in
theorem t_X2_about {z : Sh9} {N : Nv9} {X : Cx9} {out : Out9 × Mem9} (C : OK9 z N X out 2 (co9 out.1) cX2_about RX2 6 1 []) (a0 : Nat) (a1 : Int32) (M : Mem9) : J9 z N X out 2 0 [(0, .ref a0), (1, .int a1)] [] M (0, 0) (f_X2_about z a0 a1 M) := by
  refine j_iload_n (pc := 0) C dX2_about_0 rfl ?_
  refine j_if_lt (pc := 1) C dX2_about_1 (tgt := 10) (by decide) (fun hc11 => ?_) (fun hc11 => ?_)
  · exact j_throw (pc := 10) C rfl th_X2_about_10 (by decide) (Nat.le_of_ble_eq_true rfl) rfl ⟨Nat.le_refl _, Nat.le_refl _⟩
  · refine j_iload_n (pc := 4) C dX2_about_4 rfl ?_
    refine j_bipush (pc := 5) C dX2_about_5 (v := 9) rfl ?_
    refine j_icmp_le (pc := 7) C dX2_about_7 (tgt := 20) (by decide) (fun hc10 => ?_) (fun hc10 => ?_)
    · refine j_iload_n (pc := 20) C dX2_about_20 rfl ?_
      refine j_if_ne (pc := 21) C dX2_about_21 (tgt := 32) (by decide) (fun hc9 => ?_) (fun hc9 => ?_)
      · refine j_iload_n (pc := 32) C dX2_about_32 rfl ?_
        refine j_iconst (pc := 33) C dX2_about_33 (v := 1) rfl ?_
        refine j_icmp_ne (pc := 34) C dX2_about_34 (tgt := 47) (by decide) (fun hc6 => ?_) (fun hc6 => ?_)
        · refine j_aload_n (pc := 47) C dX2_about_47 rfl ?_
          refine j_getR (pc := 48) C dX2_about_48 fl_X2_20 fr_X2_2 (fun v1 => ?_)
          refine j_iload_n (pc := 51) C dX2_about_51 rfl ?_
          refine j_callVi (pc := 52) C rfl dX2_about_52 lv_X2_135 rfl (Nat.le_of_ble_eq_true rfl) (Nat.le_of_ble_eq_true rfl) (by decide) (Or.inl rfl) ⟨Nat.le_refl _, Nat.le_refl _⟩ (fun l hl o ho => sp_X0_total hl ho) (fun v3 M2 => ?_)
          exact j_ireturn (pc := 55) C rfl dX2_about_55 ⟨Nat.zero_le _, Nat.zero_le _⟩
        · refine j_aload_n (pc := 37) C dX2_about_37 rfl ?_
          refine j_getR (pc := 38) C dX2_about_38 fl_X2_20 fr_X2_2 (fun v4 => ?_)
          refine j_getI (pc := 41) C dX2_about_41 fl_X2_132 fi_X0_3 (fun v5 => ?_)
          refine j_goto (pc := 44) C dX2_about_44 (tgt := 55) (by decide) ?_
          exact j_ireturn (pc := 55) C rfl dX2_about_55 ⟨Nat.zero_le _, Nat.zero_le _⟩
      · refine j_aload_n (pc := 24) C dX2_about_24 rfl ?_
        refine j_getR (pc := 25) C dX2_about_25 fl_X2_20 fr_X2_2 (fun v7 => ?_)
        refine j_getI (pc := 28) C dX2_about_28 fl_X2_129 fi_X0_2 (fun v8 => ?_)
        exact j_ireturn (pc := 31) C rfl dX2_about_31 ⟨Nat.zero_le _, Nat.zero_le _⟩
    · exact j_throw (pc := 10) C rfl th_X2_about_10 (by decide) (Nat.le_of_ble_eq_true rfl) rfl ⟨Nat.le_refl _, Nat.le_refl _⟩
theorem sp_X2_about {l : Launch} {z : Sh9} {N : Nv9} {a0 : Nat} {a1 : Int32} {M : Mem9} {o : Out9 × Mem9} (hl : l.stackTraces = false) (h : f_X2_about z a0 a1 M = some o) : Sp9 l z N yX2_about (Cond.code yX2_about cX2_about 2 (some .int)) 6 [.ref a0, .int a1] M (co9 o.1) o :=
  sp9_of (rk := 1) (own := RX2) (by decide +kernel) rfl (Or.inr (Or.inl ⟨rfl, rfl⟩)) hl (Nat.le_of_ble_eq_true rfl) (fun X C => t_X2_about C a0 a1 M) h
def f_X2_remember (z : Sh9) (a0 : Nat) (M : Mem9) : Re9 :=
  ((rf9 z a0 2 44).bind fun v1 => ((gf9 z M a0 2 5).bind fun v2 => ((gf9 z M a0 2 6).bind fun v3 => ((rm9 (v2 + v3) (14 : Int32)).bind fun v4 => ((la9 z 15 v1 v4).bind fun v5 => ((rf9 z a0 2 2).bind fun v6 => (bv9 (iv9 z v5 0 (f_X0_copyFrom z v5 v6 M)) fun M7 => ((gf9 z M7 a0 2 6).bind fun v8 => (if (14 : Int32) ≤ v8 then ((gf9 z M7 a0 2 5).bind fun v9 => ((rm9 (v9 + (1 : Int32)) (14 : Int32)).bind fun v10 => ((pf9 z M7 a0 2 5 v10).bind fun M11 => (rv9 M11)))) else ((gf9 z M7 a0 2 6).bind fun v12 => ((pf9 z M7 a0 2 6 (v12 + (1 : Int32))).bind fun M13 => (rv9 M13))))))))))))
set_option maxRecDepth 20000 in
set_option maxHeartbeats 4000000 in
theorem t_X2_remember {z : Sh9} {N : Nv9} {X : Cx9} {out : Out9 × Mem9} (C : OK9 z N X out 1 (co9 out.1) cX2_remember RX2 3 0 []) (a0 : Nat) (M : Mem9) : J9 z N X out 1 0 [(0, .ref a0)] [] M (0, 0) (f_X2_remember z a0 M) := by
  refine j_aload_n (pc := 0) C dX2_remember_0 rfl ?_
  refine j_getR (pc := 1) C dX2_remember_1 fl_X2_27 fr_X2_4 (fun v1 => ?_)
  refine j_aload_n (pc := 4) C dX2_remember_4 rfl ?_
  refine j_getI (pc := 5) C dX2_remember_5 fl_X2_31 fi_X2_5 (fun v2 => ?_)
  refine j_aload_n (pc := 8) C dX2_remember_8 rfl ?_
  refine j_getI (pc := 9) C dX2_remember_9 fl_X2_34 fi_X2_6 (fun v3 => ?_)
  refine j_iadd (pc := 12) C dX2_remember_12 ?_
  refine j_bipush (pc := 13) C dX2_remember_13 (v := 14) rfl ?_
  refine j_irem (pc := 15) C dX2_remember_15 (fun v4 => ?_)
  refine j_aaload (t := 15) (pc := 16) C dX2_remember_16 (by decide) (fun v5 => ?_)
  refine j_aload_n (pc := 17) C dX2_remember_17 rfl ?_
  refine j_getR (pc := 18) C dX2_remember_18 fl_X2_20 fr_X2_2 (fun v6 => ?_)
  refine j_callVv (pc := 21) C rfl dX2_remember_21 lv_X2_220 rfl (Nat.le_of_ble_eq_true rfl) (Nat.le_of_ble_eq_true rfl) (by decide) (Or.inl rfl) ⟨Nat.le_refl _, Nat.le_refl _⟩ (fun l hl o ho => sp_X0_copyFrom hl ho) (fun M7 => ?_)
  refine j_aload_n (pc := 24) C dX2_remember_24 rfl ?_
  refine j_getI (pc := 25) C dX2_remember_25 fl_X2_34 fi_X2_6 (fun v8 => ?_)
  refine j_bipush (pc := 28) C dX2_remember_28 (v := 14) rfl ?_
  refine j_icmp_ge (pc := 30) C dX2_remember_30 (tgt := 46) (by decide) (fun hc14 => ?_) (fun hc14 => ?_)
  · refine j_aload_n (pc := 46) C dX2_remember_46 rfl ?_
    refine j_aload_n (pc := 47) C dX2_remember_47 rfl ?_
    refine j_getI (pc := 48) C dX2_remember_48 fl_X2_31 fi_X2_5 (fun v9 => ?_)
    refine j_iconst (pc := 51) C dX2_remember_51 (v := 1) rfl ?_
    refine j_iadd (pc := 52) C dX2_remember_52 ?_
    refine j_bipush (pc := 53) C dX2_remember_53 (v := 14) rfl ?_
    refine j_irem (pc := 55) C dX2_remember_55 (fun v10 => ?_)
    refine j_putI (pc := 56) C dX2_remember_56 fl_X2_31 fi_X2_5 rfl rfl (fun M11 => ?_)
    exact j_return (pc := 59) C rfl dX2_remember_59 ⟨Nat.zero_le _, Nat.zero_le _⟩
  · refine j_aload_n (pc := 33) C dX2_remember_33 rfl ?_
    refine j_dup (pc := 34) C dX2_remember_34 rfl ?_
    refine j_getI (pc := 35) C dX2_remember_35 fl_X2_34 fi_X2_6 (fun v12 => ?_)
    refine j_iconst (pc := 38) C dX2_remember_38 (v := 1) rfl ?_
    refine j_iadd (pc := 39) C dX2_remember_39 ?_
    refine j_putI (pc := 40) C dX2_remember_40 fl_X2_34 fi_X2_6 rfl rfl (fun M13 => ?_)
    refine j_goto (pc := 43) C dX2_remember_43 (tgt := 59) (by decide) ?_
    exact j_return (pc := 59) C rfl dX2_remember_59 ⟨Nat.zero_le _, Nat.zero_le _⟩
theorem sp_X2_remember {l : Launch} {z : Sh9} {N : Nv9} {a0 : Nat} {M : Mem9} {o : Out9 × Mem9} (hl : l.stackTraces = false) (h : f_X2_remember z a0 M = some o) : Sp9 l z N yX2_remember (Cond.code yX2_remember cX2_remember 1 none) 3 [.ref a0] M (co9 o.1) o :=
  sp9_of (rk := 0) (own := RX2) (by decide +kernel) rfl (Or.inl ⟨rfl, rfl⟩) hl (Nat.le_of_ble_eq_true rfl) (fun X C => t_X2_remember C a0 M) h
def f_X2_lane (z : Sh9) (a0 : Nat) (M : Mem9) : Re9 :=
  ((rf9 z a0 2 2).bind fun v1 => ((gf9 z M v1 0 2).bind fun v2 => (if v2 < (3 : Int32) then (bv9 (iv9 z a0 2 (f_X2_remember z a0  M)) fun M3 => ((rf9 z a0 2 2).bind fun v4 => (bi9 (iv9 z v4 0 (f_X0_addLane z v4  M3)) fun v6 M5 => ((rf9 z a0 2 2).bind fun v7 => ((gf9 z M5 v7 0 2).bind fun v8 => (ri9 (v8 - (1 : Int32)) M5)))))) else (tx9 "java/lang/IllegalStateException" M))))
set_option maxRecDepth 20000 in
set_option maxHeartbeats 4000000 in
theorem t_X2_lane {z : Sh9} {N : Nv9} {X : Cx9} {out : Out9 × Mem9} (C : OK9 z N X out 1 (co9 out.1) cX2_lane RX2 6 1 []) (a0 : Nat) (M : Mem9) : J9 z N X out 1 0 [(0, .ref a0)] [] M (0, 0) (f_X2_lane z a0 M) := by
  refine j_aload_n (pc := 0) C dX2_lane_0 rfl ?_
  refine j_getR (pc := 1) C dX2_lane_1 fl_X2_20 fr_X2_2 (fun v1 => ?_)
  refine j_getI (pc := 4) C dX2_lane_4 fl_X2_129 fi_X0_2 (fun v2 => ?_)
  refine j_iconst (pc := 7) C dX2_lane_7 (v := 3) rfl ?_
  refine j_icmp_lt (pc := 8) C dX2_lane_8 (tgt := 21) (by decide) (fun hc9 => ?_) (fun hc9 => ?_)
  · refine j_aload_n (pc := 21) C dX2_lane_21 rfl ?_
    refine j_callVv (pc := 22) C rfl dX2_lane_22 lv_X2_189 rfl (Nat.le_of_ble_eq_true rfl) (Nat.le_of_ble_eq_true rfl) (by decide) (Or.inl rfl) ⟨Nat.le_refl _, Nat.le_refl _⟩ (fun l hl o ho => sp_X2_remember hl ho) (fun M3 => ?_)
    refine j_aload_n (pc := 25) C dX2_lane_25 rfl ?_
    refine j_getR (pc := 26) C dX2_lane_26 fl_X2_20 fr_X2_2 (fun v4 => ?_)
    refine j_callVi (pc := 29) C rfl dX2_lane_29 lv_X2_103 rfl (Nat.le_of_ble_eq_true rfl) (Nat.le_of_ble_eq_true rfl) (by decide) (Or.inl rfl) ⟨Nat.le_refl _, Nat.le_refl _⟩ (fun l hl o ho => sp_X0_addLane hl ho) (fun v6 M5 => ?_)
    refine j_pop (pc := 32) C dX2_lane_32 rfl ?_
    refine j_aload_n (pc := 33) C dX2_lane_33 rfl ?_
    refine j_getR (pc := 34) C dX2_lane_34 fl_X2_20 fr_X2_2 (fun v7 => ?_)
    refine j_getI (pc := 37) C dX2_lane_37 fl_X2_129 fi_X0_2 (fun v8 => ?_)
    refine j_iconst (pc := 40) C dX2_lane_40 (v := 1) rfl ?_
    refine j_isub (pc := 41) C dX2_lane_41 ?_
    exact j_ireturn (pc := 42) C rfl dX2_lane_42 ⟨Nat.zero_le _, Nat.zero_le _⟩
  · exact j_throw (pc := 11) C rfl th_X2_lane_11 (by decide) (Nat.le_of_ble_eq_true rfl) rfl ⟨Nat.le_refl _, Nat.le_refl _⟩
theorem sp_X2_lane {l : Launch} {z : Sh9} {N : Nv9} {a0 : Nat} {M : Mem9} {o : Out9 × Mem9} (hl : l.stackTraces = false) (h : f_X2_lane z a0 M = some o) : Sp9 l z N yX2_lane (Cond.code yX2_lane cX2_lane 1 (some .int)) 6 [.ref a0] M (co9 o.1) o :=
  sp9_of (rk := 1) (own := RX2) (by decide +kernel) rfl (Or.inr (Or.inl ⟨rfl, rfl⟩)) hl (Nat.le_of_ble_eq_true rfl) (fun X C => t_X2_lane C a0 M) h
def f_X2_append (z : Sh9) (a0 : Nat) (a1 : Int32) (M : Mem9) : Re9 :=
  (if a1 < 0 then (tx9 "java/lang/IllegalArgumentException" M) else (if a1 ≤ (255 : Int32) then ((gf9 z M a0 2 1).bind fun v1 => (if v1 < (120 : Int32) then ((rf9 z a0 2 1).bind fun v2 => ((gf9 z M a0 2 1).bind fun v3 => ((sc9 z M v2 v3 (UInt32.toInt32 (Int32.toUInt32 a1 % 65536))).bind fun M4 => ((gf9 z M4 a0 2 1).bind fun v5 => ((pf9 z M4 a0 2 1 (v5 + (1 : Int32))).bind fun M6 => ((gf9 z M6 a0 2 1).bind fun v7 => (ri9 v7 M6))))))) else (tx9 "java/lang/IllegalStateException" M))) else (tx9 "java/lang/IllegalArgumentException" M)))
set_option maxRecDepth 20000 in
set_option maxHeartbeats 4000000 in
theorem t_X2_append {z : Sh9} {N : Nv9} {X : Cx9} {out : Out9 × Mem9} (C : OK9 z N X out 2 (co9 out.1) cX2_append RX2 6 1 []) (a0 : Nat) (a1 : Int32) (M : Mem9) : J9 z N X out 2 0 [(0, .ref a0), (1, .int a1)] [] M (0, 0) (f_X2_append z a0 a1 M) := by
  refine j_iload_n (pc := 0) C dX2_append_0 rfl ?_
  refine j_if_lt (pc := 1) C dX2_append_1 (tgt := 11) (by decide) (fun hc10 => ?_) (fun hc10 => ?_)
  · exact j_throw (pc := 11) C rfl th_X2_append_11 (by decide) (Nat.le_of_ble_eq_true rfl) rfl ⟨Nat.le_refl _, Nat.le_refl _⟩
  · refine j_iload_n (pc := 4) C dX2_append_4 rfl ?_
    refine j_sipush (pc := 5) C dX2_append_5 (v := 255) rfl ?_
    refine j_icmp_le (pc := 8) C dX2_append_8 (tgt := 21) (by decide) (fun hc9 => ?_) (fun hc9 => ?_)
    · refine j_aload_n (pc := 21) C dX2_append_21 rfl ?_
      refine j_getI (pc := 22) C dX2_append_22 fl_X2_13 fi_X2_1 (fun v1 => ?_)
      refine j_bipush (pc := 25) C dX2_append_25 (v := 120) rfl ?_
      refine j_icmp_lt (pc := 27) C dX2_append_27 (tgt := 40) (by decide) (fun hc8 => ?_) (fun hc8 => ?_)
      · refine j_aload_n (pc := 40) C dX2_append_40 rfl ?_
        refine j_getR (pc := 41) C dX2_append_41 fl_X2_9 fr_X2_0 (fun v2 => ?_)
        refine j_aload_n (pc := 44) C dX2_append_44 rfl ?_
        refine j_getI (pc := 45) C dX2_append_45 fl_X2_13 fi_X2_1 (fun v3 => ?_)
        refine j_iload_n (pc := 48) C dX2_append_48 rfl ?_
        refine j_i2c (pc := 49) C dX2_append_49 ?_
        refine j_castore (pc := 50) C dX2_append_50 (fun M4 => ?_)
        refine j_aload_n (pc := 51) C dX2_append_51 rfl ?_
        refine j_dup (pc := 52) C dX2_append_52 rfl ?_
        refine j_getI (pc := 53) C dX2_append_53 fl_X2_13 fi_X2_1 (fun v5 => ?_)
        refine j_iconst (pc := 56) C dX2_append_56 (v := 1) rfl ?_
        refine j_iadd (pc := 57) C dX2_append_57 ?_
        refine j_putI (pc := 58) C dX2_append_58 fl_X2_13 fi_X2_1 rfl rfl (fun M6 => ?_)
        refine j_aload_n (pc := 61) C dX2_append_61 rfl ?_
        refine j_getI (pc := 62) C dX2_append_62 fl_X2_13 fi_X2_1 (fun v7 => ?_)
        exact j_ireturn (pc := 65) C rfl dX2_append_65 ⟨Nat.zero_le _, Nat.zero_le _⟩
      · exact j_throw (pc := 30) C rfl th_X2_append_30 (by decide) (Nat.le_of_ble_eq_true rfl) rfl ⟨Nat.le_refl _, Nat.le_refl _⟩
    · exact j_throw (pc := 11) C rfl th_X2_append_11 (by decide) (Nat.le_of_ble_eq_true rfl) rfl ⟨Nat.le_refl _, Nat.le_refl _⟩
theorem sp_X2_append {l : Launch} {z : Sh9} {N : Nv9} {a0 : Nat} {a1 : Int32} {M : Mem9} {o : Out9 × Mem9} (hl : l.stackTraces = false) (h : f_X2_append z a0 a1 M = some o) : Sp9 l z N yX2_append (Cond.code yX2_append cX2_append 2 (some .int)) 6 [.ref a0, .int a1] M (co9 o.1) o :=
  sp9_of (rk := 1) (own := RX2) (by decide +kernel) rfl (Or.inr (Or.inl ⟨rfl, rfl⟩)) hl (Nat.le_of_ble_eq_true rfl) (fun X C => t_X2_append C a0 a1 M) h
def f_X2_checkSlot (z : Sh9) (a0 : Int32) (M : Mem9) : Re9 :=
  (if a0 < 0 then (tx9 "java/lang/IndexOutOfBoundsException" M) else (if a0 < (2 : Int32) then (rv9 M) else (tx9 "java/lang/IndexOutOfBoundsException" M)))
set_option maxRecDepth 20000 in
set_option maxHeartbeats 4000000 in
theorem t_X2_checkSlot {z : Sh9} {N : Nv9} {X : Cx9} {out : Out9 × Mem9} (C : OK9 z N X out 1 (co9 out.1) cX2_checkSlot RX2 6 0 []) (a0 : Int32) (M : Mem9) : J9 z N X out 1 0 [(0, .int a0)] [] M (0, 0) (f_X2_checkSlot z a0 M) := by
  refine j_iload_n (pc := 0) C dX2_checkSlot_0 rfl ?_
  refine j_if_lt (pc := 1) C dX2_checkSlot_1 (tgt := 9) (by decide) (fun hc2 => ?_) (fun hc2 => ?_)
  · exact j_throw (pc := 9) C rfl th_X2_checkSlot_9 (by decide) (Nat.le_of_ble_eq_true rfl) rfl ⟨Nat.le_refl _, Nat.le_refl _⟩
  · refine j_iload_n (pc := 4) C dX2_checkSlot_4 rfl ?_
    refine j_iconst (pc := 5) C dX2_checkSlot_5 (v := 2) rfl ?_
    refine j_icmp_lt (pc := 6) C dX2_checkSlot_6 (tgt := 20) (by decide) (fun hc1 => ?_) (fun hc1 => ?_)
    · exact j_return (pc := 20) C rfl dX2_checkSlot_20 ⟨Nat.zero_le _, Nat.zero_le _⟩
    · exact j_throw (pc := 9) C rfl th_X2_checkSlot_9 (by decide) (Nat.le_of_ble_eq_true rfl) rfl ⟨Nat.le_refl _, Nat.le_refl _⟩
theorem sp_X2_checkSlot {l : Launch} {z : Sh9} {N : Nv9} {a0 : Int32} {M : Mem9} {o : Out9 × Mem9} (hl : l.stackTraces = false) (h : f_X2_checkSlot z a0 M = some o) : Sp9 l z N yX2_checkSlot (Cond.code yX2_checkSlot cX2_checkSlot 1 none) 6 [.int a0] M (co9 o.1) o :=
  sp9_of (rk := 0) (own := RX2) (by decide +kernel) rfl (Or.inl ⟨rfl, rfl⟩) hl (Nat.le_of_ble_eq_true rfl) (fun X C => t_X2_checkSlot C a0 M) h
def f_X2_forgetAll (z : Sh9) (a0 : Nat) (M : Mem9) : Re9 :=
  ((pf9 z M a0 2 5 (0 : Int32)).bind fun M1 => ((pf9 z M1 a0 2 6 (0 : Int32)).bind fun M2 => (rv9 M2)))
set_option maxRecDepth 20000 in
set_option maxHeartbeats 4000000 in
theorem t_X2_forgetAll {z : Sh9} {N : Nv9} {X : Cx9} {out : Out9 × Mem9} (C : OK9 z N X out 1 (co9 out.1) cX2_forgetAll RX2 0 0 []) (a0 : Nat) (M : Mem9) : J9 z N X out 1 0 [(0, .ref a0)] [] M (0, 0) (f_X2_forgetAll z a0 M) := by
  refine j_aload_n (pc := 0) C dX2_forgetAll_0 rfl ?_
  refine j_iconst (pc := 1) C dX2_forgetAll_1 (v := 0) rfl ?_
  refine j_putI (pc := 2) C dX2_forgetAll_2 fl_X2_31 fi_X2_5 rfl rfl (fun M1 => ?_)
  refine j_aload_n (pc := 5) C dX2_forgetAll_5 rfl ?_
  refine j_iconst (pc := 6) C dX2_forgetAll_6 (v := 0) rfl ?_
  refine j_putI (pc := 7) C dX2_forgetAll_7 fl_X2_34 fi_X2_6 rfl rfl (fun M2 => ?_)
  exact j_return (pc := 10) C rfl dX2_forgetAll_10 ⟨Nat.zero_le _, Nat.zero_le _⟩
theorem sp_X2_forgetAll {l : Launch} {z : Sh9} {N : Nv9} {a0 : Nat} {M : Mem9} {o : Out9 × Mem9} (hl : l.stackTraces = false) (h : f_X2_forgetAll z a0 M = some o) : Sp9 l z N yX2_forgetAll (Cond.code yX2_forgetAll cX2_forgetAll 1 none) 0 [.ref a0] M (co9 o.1) o :=
  sp9_of (rk := 0) (own := RX2) (by decide +kernel) rfl (Or.inl ⟨rfl, rfl⟩) hl (Nat.le_of_ble_eq_true rfl) (fun X C => t_X2_forgetAll C a0 M) h
def f_X2_restore (z : Sh9) (a0 : Nat) (a1 : Int32) (M : Mem9) : Re9 :=
  (bv9 (f_X2_checkSlot z a1 M) fun M1 => ((rf9 z a0 2 46).bind fun v2 => ((ld9 z M1 11 v2 a1).bind fun v3 => (if v3 = 0 then (tx9 "java/lang/IllegalStateException" M1) else ((rf9 z a0 2 2).bind fun v4 => ((rf9 z a0 2 45).bind fun v5 => ((la9 z 16 v5 a1).bind fun v6 => (bv9 (iv9 z v4 0 (f_X0_copyFrom z v4 v6 M1)) fun M7 => (bv9 (iv9 z a0 2 (f_X2_forgetAll z a0  M7)) fun M8 => ((rf9 z a0 2 2).bind fun v9 => ((gf9 z M8 v9 0 3).bind fun v10 => (ri9 v10 M8))))))))))))
set_option maxRecDepth 20000 in
set_option maxHeartbeats 4000000 in
theorem t_X2_restore {z : Sh9} {N : Nv9} {X : Cx9} {out : Out9 × Mem9} (C : OK9 z N X out 2 (co9 out.1) cX2_restore RX2 7 1 []) (a0 : Nat) (a1 : Int32) (M : Mem9) : J9 z N X out 2 0 [(0, .ref a0), (1, .int a1)] [] M (0, 0) (f_X2_restore z a0 a1 M) := by
  refine j_iload_n (pc := 0) C dX2_restore_0 rfl ?_
  refine j_callSv (pc := 1) C rfl dX2_restore_1 ls_X2_272 rfl (Nat.le_of_ble_eq_true rfl) (Nat.le_of_ble_eq_true rfl) (by decide) (Or.inl rfl) ⟨Nat.le_refl _, Nat.le_refl _⟩ (fun l hl o ho => sp_X2_checkSlot hl ho) (fun M1 => ?_)
  refine j_aload_n (pc := 4) C dX2_restore_4 rfl ?_
  refine j_getR (pc := 5) C dX2_restore_5 fl_X2_40 fr_X2_8 (fun v2 => ?_)
  refine j_iload_n (pc := 8) C dX2_restore_8 rfl ?_
  refine j_baload (pc := 9) C dX2_restore_9 (fun v3 => ?_)
  refine j_if_ne (pc := 10) C dX2_restore_10 (tgt := 24) (by decide) (fun hc11 => ?_) (fun hc11 => ?_)
  · refine j_aload_n (pc := 24) C dX2_restore_24 rfl ?_
    refine j_getR (pc := 25) C dX2_restore_25 fl_X2_20 fr_X2_2 (fun v4 => ?_)
    refine j_aload_n (pc := 28) C dX2_restore_28 rfl ?_
    refine j_getR (pc := 29) C dX2_restore_29 fl_X2_37 fr_X2_7 (fun v5 => ?_)
    refine j_iload_n (pc := 32) C dX2_restore_32 rfl ?_
    refine j_aaload (t := 16) (pc := 33) C dX2_restore_33 (by decide) (fun v6 => ?_)
    refine j_callVv (pc := 34) C rfl dX2_restore_34 lv_X2_220 rfl (Nat.le_of_ble_eq_true rfl) (Nat.le_of_ble_eq_true rfl) (by decide) (Or.inl rfl) ⟨Nat.le_refl _, Nat.le_refl _⟩ (fun l hl o ho => sp_X0_copyFrom hl ho) (fun M7 => ?_)
    refine j_aload_n (pc := 37) C dX2_restore_37 rfl ?_
    refine j_callVv (pc := 38) C rfl dX2_restore_38 lv_X2_75 rfl (Nat.le_of_ble_eq_true rfl) (Nat.le_of_ble_eq_true rfl) (by decide) (Or.inl rfl) ⟨Nat.le_refl _, Nat.le_refl _⟩ (fun l hl o ho => sp_X2_forgetAll hl ho) (fun M8 => ?_)
    refine j_aload_n (pc := 41) C dX2_restore_41 rfl ?_
    refine j_getR (pc := 42) C dX2_restore_42 fl_X2_20 fr_X2_2 (fun v9 => ?_)
    refine j_getI (pc := 45) C dX2_restore_45 fl_X2_132 fi_X0_3 (fun v10 => ?_)
    exact j_ireturn (pc := 48) C rfl dX2_restore_48 ⟨Nat.zero_le _, Nat.zero_le _⟩
  · exact j_throw (pc := 13) C rfl th_X2_restore_13 (by decide) (Nat.le_of_ble_eq_true rfl) rfl ⟨Nat.le_refl _, Nat.le_refl _⟩
theorem sp_X2_restore {l : Launch} {z : Sh9} {N : Nv9} {a0 : Nat} {a1 : Int32} {M : Mem9} {o : Out9 × Mem9} (hl : l.stackTraces = false) (h : f_X2_restore z a0 a1 M = some o) : Sp9 l z N yX2_restore (Cond.code yX2_restore cX2_restore 2 (some .int)) 7 [.ref a0, .int a1] M (co9 o.1) o :=
  sp9_of (rk := 1) (own := RX2) (by decide +kernel) rfl (Or.inr (Or.inl ⟨rfl, rfl⟩)) hl (Nat.le_of_ble_eq_true rfl) (fun X C => t_X2_restore C a0 a1 M) h
def f_X2_checkLength (z : Sh9) (a0 : Int32) (M : Mem9) : Re9 :=
  (if a0 < (2 : Int32) then (tx9 "java/lang/IllegalArgumentException" M) else (if a0 ≤ (12 : Int32) then (rv9 M) else (tx9 "java/lang/IllegalArgumentException" M)))
set_option maxRecDepth 20000 in
set_option maxHeartbeats 4000000 in
theorem t_X2_checkLength {z : Sh9} {N : Nv9} {X : Cx9} {out : Out9 × Mem9} (C : OK9 z N X out 1 (co9 out.1) cX2_checkLength RX2 6 0 []) (a0 : Int32) (M : Mem9) : J9 z N X out 1 0 [(0, .int a0)] [] M (0, 0) (f_X2_checkLength z a0 M) := by
  refine j_iload_n (pc := 0) C dX2_checkLength_0 rfl ?_
  refine j_iconst (pc := 1) C dX2_checkLength_1 (v := 2) rfl ?_
  refine j_icmp_lt (pc := 2) C dX2_checkLength_2 (tgt := 11) (by decide) (fun hc2 => ?_) (fun hc2 => ?_)
  · exact j_throw (pc := 11) C rfl th_X2_checkLength_11 (by decide) (Nat.le_of_ble_eq_true rfl) rfl ⟨Nat.le_refl _, Nat.le_refl _⟩
  · refine j_iload_n (pc := 5) C dX2_checkLength_5 rfl ?_
    refine j_bipush (pc := 6) C dX2_checkLength_6 (v := 12) rfl ?_
    refine j_icmp_le (pc := 8) C dX2_checkLength_8 (tgt := 21) (by decide) (fun hc1 => ?_) (fun hc1 => ?_)
    · exact j_return (pc := 21) C rfl dX2_checkLength_21 ⟨Nat.zero_le _, Nat.zero_le _⟩
    · exact j_throw (pc := 11) C rfl th_X2_checkLength_11 (by decide) (Nat.le_of_ble_eq_true rfl) rfl ⟨Nat.le_refl _, Nat.le_refl _⟩
theorem sp_X2_checkLength {l : Launch} {z : Sh9} {N : Nv9} {a0 : Int32} {M : Mem9} {o : Out9 × Mem9} (hl : l.stackTraces = false) (h : f_X2_checkLength z a0 M = some o) : Sp9 l z N yX2_checkLength (Cond.code yX2_checkLength cX2_checkLength 1 none) 6 [.int a0] M (co9 o.1) o :=
  sp9_of (rk := 0) (own := RX2) (by decide +kernel) rfl (Or.inl ⟨rfl, rfl⟩) hl (Nat.le_of_ble_eq_true rfl) (fun X C => t_X2_checkLength C a0 M) h
def f_X2_copyThroughIn_b21 (z : Sh9) (r21 : Nat → Nat → Int32 → Int32 → Mem9 → Re9) (x0 : Nat) (x3 : Nat) (x4 : Int32) (x5 : Int32) (M : Mem9) : Re9 :=
  (if (400 : Int32) < x5 then (ri9 (-1 : Int32) M) else ((gf9 z M x3 1 12).bind fun v6 => (bi9 (iv9 z x3 1 (f_X1_hasGoneThrough z x3 (x4 - v6) M)) fun v8 M7 => (if v8 = 0 then ((rf9 z x0 2 23).bind fun v9 => ((rf9 z v9 0 2).bind fun v10 => (bv9 (iv9 z x3 1 (f_X1_tick z x3 v10 M7)) fun M11 => (r21 x0 x3 x4 (x5 + (1 : Int32)) M11)))) else (ri9 x5 M7)))))
set_option maxRecDepth 20000 in
set_option maxHeartbeats 4000000 in
theorem t_X2_copyThroughIn_b21 {z : Sh9} {N : Nv9} {X : Cx9} {out : Out9 × Mem9} (C : OK9 z N X out 6 (co9 out.1) cX2_copyThroughIn RX2 4 1 []) {r21 : Nat → Nat → Int32 → Int32 → Mem9 → Re9} (h21 : ∀ (x0 : Nat) (x3 : Nat) (x4 : Int32) (x5 : Int32) (M : Mem9), J9 z N X out 6 21 [(0, .ref x0), (3, .ref x3), (4, .int x4), (5, .int x5)] [] M (0, 0) (r21 x0 x3 x4 x5 M)) (x0 : Nat) (x3 : Nat) (x4 : Int32) (x5 : Int32) (M : Mem9) : J9 z N X out 6 21 [(0, .ref x0), (3, .ref x3), (4, .int x4), (5, .int x5)] [] M (0, 0) (f_X2_copyThroughIn_b21 z r21 x0 x3 x4 x5 M) := by
  refine j_iload (pc := 21) C dX2_copyThroughIn_21 rfl ?_
  refine j_sipush (pc := 23) C dX2_copyThroughIn_23 (v := 400) rfl ?_
  refine j_icmp_gt (pc := 26) C dX2_copyThroughIn_26 (tgt := 63) (by decide) (fun hc13 => ?_) (fun hc13 => ?_)
  · refine j_iconst (pc := 63) C dX2_copyThroughIn_63 (v := -1) rfl ?_
    exact j_ireturn (pc := 64) C rfl dX2_copyThroughIn_64 ⟨Nat.zero_le _, Nat.zero_le _⟩
  · refine j_aload_n (pc := 29) C dX2_copyThroughIn_29 rfl ?_
    refine j_iload (pc := 30) C dX2_copyThroughIn_30 rfl ?_
    refine j_aload_n (pc := 32) C dX2_copyThroughIn_32 rfl ?_
    refine j_getI (pc := 33) C dX2_copyThroughIn_33 fl_X2_239 fi_X1_12 (fun v6 => ?_)
    refine j_isub (pc := 36) C dX2_copyThroughIn_36 ?_
    refine j_callVi (pc := 37) C rfl dX2_copyThroughIn_37 lv_X2_242 rfl (Nat.le_of_ble_eq_true rfl) (Nat.le_of_ble_eq_true rfl) (by decide) (Or.inl rfl) ⟨Nat.le_refl _, Nat.le_refl _⟩ (fun l hl o ho => sp_X1_hasGoneThrough hl ho) (fun v8 M7 => ?_)
    refine j_if_eq (pc := 40) C dX2_copyThroughIn_40 (tgt := 46) (by decide) (fun hc12 => ?_) (fun hc12 => ?_)
    · refine j_aload_n (pc := 46) C dX2_copyThroughIn_46 rfl ?_
      refine j_aload_n (pc := 47) C dX2_copyThroughIn_47 rfl ?_
      refine j_getR (pc := 48) C dX2_copyThroughIn_48 fl_X2_24 fr_X2_3 (fun v9 => ?_)
      refine j_getR (pc := 51) C dX2_copyThroughIn_51 fl_X2_168 fr_X0_1 (fun v10 => ?_)
      refine j_callVv (pc := 54) C rfl dX2_copyThroughIn_54 lv_X2_224 rfl (Nat.le_of_ble_eq_true rfl) (Nat.le_of_ble_eq_true rfl) (by decide) (Or.inl rfl) ⟨Nat.le_refl _, Nat.le_refl _⟩ (fun l hl o ho => sp_X1_tick hl ho) (fun M11 => ?_)
      refine j_iinc (pc := 57) C dX2_copyThroughIn_57 rfl (v := (x5 + (1 : Int32))) rfl (Nat.le_of_ble_eq_true rfl) (ls' := [(5, .int (x5 + (1 : Int32))), (0, .ref x0), (3, .ref x3), (4, .int x4)]) rfl ?_
      refine j_goto (pc := 60) C dX2_copyThroughIn_60 (tgt := 21) (by decide) ?_
      refine j_loc [1, 2, 3, 0] rfl ?_
      exact h21 x0 x3 x4 (x5 + (1 : Int32)) M11
    · refine j_iload (pc := 43) C dX2_copyThroughIn_43 rfl ?_
      exact j_ireturn (pc := 45) C rfl dX2_copyThroughIn_45 ⟨Nat.zero_le _, Nat.zero_le _⟩
theorem t_X2_copyThroughIn_l21 {z : Sh9} {N : Nv9} {X : Cx9} {out : Out9 × Mem9} (C : OK9 z N X out 6 (co9 out.1) cX2_copyThroughIn RX2 4 1 [])  : ∀ (n : Nat) (x0 : Nat) (x3 : Nat) (x4 : Int32) (x5 : Int32) (M : Mem9), J9 z N X out 6 21 [(0, .ref x0), (3, .ref x3), (4, .int x4), (5, .int x5)] [] M (0, 0) (fx9 (fun _ _ _ _ _ => none) (f_X2_copyThroughIn_b21 z ) n x0 x3 x4 x5 M) := by
  intro n
  induction n with
  | zero => intro x0 x3 x4 x5 M; exact j_none
  | succ n ih => intro x0 x3 x4 x5 M; exact t_X2_copyThroughIn_b21 C  ih x0 x3 x4 x5 M
def f_X2_copyThroughIn (z : Sh9) (a0 : Nat) (a1 : Int32) (a2 : Int32) (M : Mem9) : Re9 :=
  ((rf9 z a0 2 23).bind fun v1 => ((rf9 z v1 0 1).bind fun v2 => ((la9 z 14 v2 a1).bind fun v3 => ((gf9 z M v3 1 12).bind fun v4 => (nm9 (v4 + a2) fun (y5 : Int32) => (fx9 (fun _ _ _ _ _ => none) (f_X2_copyThroughIn_b21 z ) FU9 a0 v3 y5 (0 : Int32) M))))))
set_option maxRecDepth 20000 in
set_option maxHeartbeats 4000000 in
theorem t_X2_copyThroughIn {z : Sh9} {N : Nv9} {X : Cx9} {out : Out9 × Mem9} (C : OK9 z N X out 6 (co9 out.1) cX2_copyThroughIn RX2 4 1 []) (a0 : Nat) (a1 : Int32) (a2 : Int32) (M : Mem9) : J9 z N X out 6 0 [(0, .ref a0), (1, .int a1), (2, .int a2)] [] M (0, 0) (f_X2_copyThroughIn z a0 a1 a2 M) := by
  refine j_aload_n (pc := 0) C dX2_copyThroughIn_0 rfl ?_
  refine j_getR (pc := 1) C dX2_copyThroughIn_1 fl_X2_24 fr_X2_3 (fun v1 => ?_)
  refine j_getR (pc := 4) C dX2_copyThroughIn_4 fl_X2_144 fr_X0_0 (fun v2 => ?_)
  refine j_iload_n (pc := 7) C dX2_copyThroughIn_7 rfl ?_
  refine j_aaload (t := 14) (pc := 8) C dX2_copyThroughIn_8 (by decide) (fun v3 => ?_)
  refine j_astore_n (pc := 9) C dX2_copyThroughIn_9 (Nat.le_of_ble_eq_true rfl) (ls' := [(3, .ref v3), (0, .ref a0), (1, .int a1), (2, .int a2)]) rfl ?_
  refine j_aload_n (pc := 10) C dX2_copyThroughIn_10 rfl ?_
  refine j_getI (pc := 11) C dX2_copyThroughIn_11 fl_X2_239 fi_X1_12 (fun v4 => ?_)
  refine j_iload_n (pc := 14) C dX2_copyThroughIn_14 rfl ?_
  refine j_iadd (pc := 15) C dX2_copyThroughIn_15 ?_
  refine j_nm (st' := fun x9 : Int32 => .int x9 :: []) rfl (fun y5 => ?_)
  refine j_istore (pc := 16) C dX2_copyThroughIn_16 (Nat.le_of_ble_eq_true rfl) (ls' := [(4, .int y5), (3, .ref v3), (0, .ref a0), (1, .int a1), (2, .int a2)]) rfl ?_
  refine j_iconst (pc := 18) C dX2_copyThroughIn_18 (v := 0) rfl ?_
  refine j_istore (pc := 19) C dX2_copyThroughIn_19 (Nat.le_of_ble_eq_true rfl) (ls' := [(5, .int (0 : Int32)), (4, .int y5), (3, .ref v3), (0, .ref a0), (1, .int a1), (2, .int a2)]) rfl ?_
  refine j_loc [3, 2, 1, 0] rfl ?_
  exact t_X2_copyThroughIn_l21 C  FU9 a0 v3 y5 (0 : Int32) M
theorem sp_X2_copyThroughIn {l : Launch} {z : Sh9} {N : Nv9} {a0 : Nat} {a1 : Int32} {a2 : Int32} {M : Mem9} {o : Out9 × Mem9} (hl : l.stackTraces = false) (h : f_X2_copyThroughIn z a0 a1 a2 M = some o) : Sp9 l z N yX2_copyThroughIn (Cond.code yX2_copyThroughIn cX2_copyThroughIn 6 (some .int)) 4 [.ref a0, .int a1, .int a2] M (co9 o.1) o :=
  sp9_of (rk := 1) (own := RX2) (by decide +kernel) rfl (Or.inr (Or.inl ⟨rfl, rfl⟩)) hl (Nat.le_of_ble_eq_true rfl) (fun X C => t_X2_copyThroughIn C a0 a1 a2 M) h
def f_X2_bestLane_b13 (z : Sh9) (r13 : Nat → Int32 → Int32 → Int32 → Int32 → Mem9 → Re9) (x0 : Nat) (x1 : Int32) (x2 : Int32) (x3 : Int32) (x4 : Int32) (M : Mem9) : Re9 :=
  ((rf9 z x0 2 2).bind fun v2 => ((gf9 z M v2 0 2).bind fun v3 => (if v3 ≤ x4 then (ri9 x2 M) else ((rf9 z x0 2 23).bind fun v4 => ((rf9 z x0 2 2).bind fun v5 => (bv9 (iv9 z v4 0 (f_X0_copyFrom z v4 v5 M)) fun M6 => ((rf9 z x0 2 23).bind fun v7 => (bi9 (iv9 z v7 0 (f_X0_addVehicle z v7 x4 x1 (0 : Int32) (0 : Int32) M6)) fun v9 M8 => (if v9 = 0 then (r13 x0 x1 x2 x3 (x4 + (1 : Int32)) M8) else ((rf9 z x0 2 23).bind fun v10 => ((rf9 z v10 0 1).bind fun v11 => ((la9 z 14 v11 x4).bind fun v12 => ((gf9 z M8 v12 1 5).bind fun v13 => (bi9 (iv9 z x0 2 (f_X2_copyThroughIn z x0 x4 (v13 - (1 : Int32)) M8)) fun v15 M14 => (if v15 = (-1 : Int32) then (r13 x0 x1 x2 x3 (x4 + (1 : Int32)) M14) else (if x3 ≤ v15 then (r13 x0 x1 x2 x3 (x4 + (1 : Int32)) M14) else (r13 x0 x1 x4 v15 (x4 + (1 : Int32)) M14)))))))))))))))))
set_option maxRecDepth 20000 in
set_option maxHeartbeats 4000000 in
theorem t_X2_bestLane_b13 {z : Sh9} {N : Nv9} {X : Cx9} {out : Out9 × Mem9} (C : OK9 z N X out 6 (co9 out.1) cX2_bestLane RX2 7 1 []) {r13 : Nat → Int32 → Int32 → Int32 → Int32 → Mem9 → Re9} (h13 : ∀ (x0 : Nat) (x1 : Int32) (x2 : Int32) (x3 : Int32) (x4 : Int32) (M : Mem9), J9 z N X out 6 13 [(0, .ref x0), (1, .int x1), (2, .int x2), (3, .int x3), (4, .int x4)] [] M (0, 0) (r13 x0 x1 x2 x3 x4 M)) (x0 : Nat) (x1 : Int32) (x2 : Int32) (x3 : Int32) (x4 : Int32) (M : Mem9) : J9 z N X out 6 13 [(0, .ref x0), (1, .int x1), (2, .int x2), (3, .int x3), (4, .int x4)] [] M (0, 0) (f_X2_bestLane_b13 z r13 x0 x1 x2 x3 x4 M) := by
  refine j_iload (pc := 13) C dX2_bestLane_13 rfl ?_
  refine j_aload_n (pc := 15) C dX2_bestLane_15 rfl ?_
  refine j_getR (pc := 16) C dX2_bestLane_16 fl_X2_20 fr_X2_2 (fun v2 => ?_)
  refine j_getI (pc := 19) C dX2_bestLane_19 fl_X2_129 fi_X0_2 (fun v3 => ?_)
  refine j_icmp_ge (pc := 22) C dX2_bestLane_22 (tgt := 98) (by decide) (fun hc19 => ?_) (fun hc19 => ?_)
  · refine j_iload_n (pc := 98) C dX2_bestLane_98 rfl ?_
    exact j_ireturn (pc := 99) C rfl dX2_bestLane_99 ⟨Nat.zero_le _, Nat.zero_le _⟩
  · refine j_aload_n (pc := 25) C dX2_bestLane_25 rfl ?_
    refine j_getR (pc := 26) C dX2_bestLane_26 fl_X2_24 fr_X2_3 (fun v4 => ?_)
    refine j_aload_n (pc := 29) C dX2_bestLane_29 rfl ?_
    refine j_getR (pc := 30) C dX2_bestLane_30 fl_X2_20 fr_X2_2 (fun v5 => ?_)
    refine j_callVv (pc := 33) C rfl dX2_bestLane_33 lv_X2_220 rfl (Nat.le_of_ble_eq_true rfl) (Nat.le_of_ble_eq_true rfl) (by decide) (Or.inl rfl) ⟨Nat.le_refl _, Nat.le_refl _⟩ (fun l hl o ho => sp_X0_copyFrom hl ho) (fun M6 => ?_)
    refine j_aload_n (pc := 36) C dX2_bestLane_36 rfl ?_
    refine j_getR (pc := 37) C dX2_bestLane_37 fl_X2_24 fr_X2_3 (fun v7 => ?_)
    refine j_iload (pc := 40) C dX2_bestLane_40 rfl ?_
    refine j_iload_n (pc := 42) C dX2_bestLane_42 rfl ?_
    refine j_iconst (pc := 43) C dX2_bestLane_43 (v := 0) rfl ?_
    refine j_iconst (pc := 44) C dX2_bestLane_44 (v := 0) rfl ?_
    refine j_callVi (pc := 45) C rfl dX2_bestLane_45 lv_X2_123 rfl (Nat.le_of_ble_eq_true rfl) (Nat.le_of_ble_eq_true rfl) (by decide) (Or.inl rfl) ⟨Nat.le_refl _, Nat.le_refl _⟩ (fun l hl o ho => sp_X0_addVehicle hl ho) (fun v9 M8 => ?_)
    refine j_if_eq (pc := 48) C dX2_bestLane_48 (tgt := 92) (by decide) (fun hc18 => ?_) (fun hc18 => ?_)
    · refine j_iinc (pc := 92) C dX2_bestLane_92 rfl (v := (x4 + (1 : Int32))) rfl (Nat.le_of_ble_eq_true rfl) (ls' := [(4, .int (x4 + (1 : Int32))), (0, .ref x0), (1, .int x1), (2, .int x2), (3, .int x3)]) rfl ?_
      refine j_goto (pc := 95) C dX2_bestLane_95 (tgt := 13) (by decide) ?_
      refine j_loc [1, 2, 3, 4, 0] rfl ?_
      exact h13 x0 x1 x2 x3 (x4 + (1 : Int32)) M8
    · refine j_aload_n (pc := 51) C dX2_bestLane_51 rfl ?_
      refine j_iload (pc := 52) C dX2_bestLane_52 rfl ?_
      refine j_aload_n (pc := 54) C dX2_bestLane_54 rfl ?_
      refine j_getR (pc := 55) C dX2_bestLane_55 fl_X2_24 fr_X2_3 (fun v10 => ?_)
      refine j_getR (pc := 58) C dX2_bestLane_58 fl_X2_144 fr_X0_0 (fun v11 => ?_)
      refine j_iload (pc := 61) C dX2_bestLane_61 rfl ?_
      refine j_aaload (t := 14) (pc := 63) C dX2_bestLane_63 (by decide) (fun v12 => ?_)
      refine j_getI (pc := 64) C dX2_bestLane_64 fl_X2_195 fi_X1_5 (fun v13 => ?_)
      refine j_iconst (pc := 67) C dX2_bestLane_67 (v := 1) rfl ?_
      refine j_isub (pc := 68) C dX2_bestLane_68 ?_
      refine j_callVi (pc := 69) C rfl dX2_bestLane_69 lv_X2_228 rfl (Nat.le_of_ble_eq_true rfl) (Nat.le_of_ble_eq_true rfl) (by decide) (Or.inl rfl) ⟨Nat.le_refl _, Nat.le_refl _⟩ (fun l hl o ho => sp_X2_copyThroughIn hl ho) (fun v15 M14 => ?_)
      refine j_istore (pc := 72) C dX2_bestLane_72 (Nat.le_of_ble_eq_true rfl) (ls' := [(5, .int v15), (0, .ref x0), (1, .int x1), (2, .int x2), (3, .int x3), (4, .int x4)]) rfl ?_
      refine j_iload (pc := 74) C dX2_bestLane_74 rfl ?_
      refine j_iconst (pc := 76) C dX2_bestLane_76 (v := -1) rfl ?_
      refine j_icmp_eq (pc := 77) C dX2_bestLane_77 (tgt := 92) (by decide) (fun hc17 => ?_) (fun hc17 => ?_)
      · refine j_iinc (pc := 92) C dX2_bestLane_92 rfl (v := (x4 + (1 : Int32))) rfl (Nat.le_of_ble_eq_true rfl) (ls' := [(4, .int (x4 + (1 : Int32))), (5, .int v15), (0, .ref x0), (1, .int x1), (2, .int x2), (3, .int x3)]) rfl ?_
        refine j_goto (pc := 95) C dX2_bestLane_95 (tgt := 13) (by decide) ?_
        refine j_loc [2, 3, 4, 5, 0] rfl ?_
        exact h13 x0 x1 x2 x3 (x4 + (1 : Int32)) M14
      · refine j_iload (pc := 80) C dX2_bestLane_80 rfl ?_
        refine j_iload_n (pc := 82) C dX2_bestLane_82 rfl ?_
        refine j_icmp_ge (pc := 83) C dX2_bestLane_83 (tgt := 92) (by decide) (fun hc16 => ?_) (fun hc16 => ?_)
        · refine j_iinc (pc := 92) C dX2_bestLane_92 rfl (v := (x4 + (1 : Int32))) rfl (Nat.le_of_ble_eq_true rfl) (ls' := [(4, .int (x4 + (1 : Int32))), (5, .int v15), (0, .ref x0), (1, .int x1), (2, .int x2), (3, .int x3)]) rfl ?_
          refine j_goto (pc := 95) C dX2_bestLane_95 (tgt := 13) (by decide) ?_
          refine j_loc [2, 3, 4, 5, 0] rfl ?_
          exact h13 x0 x1 x2 x3 (x4 + (1 : Int32)) M14
        · refine j_iload (pc := 86) C dX2_bestLane_86 rfl ?_
          refine j_istore_n (pc := 88) C dX2_bestLane_88 (Nat.le_of_ble_eq_true rfl) (ls' := [(2, .int x4), (5, .int v15), (0, .ref x0), (1, .int x1), (3, .int x3), (4, .int x4)]) rfl ?_
          refine j_iload (pc := 89) C dX2_bestLane_89 rfl ?_
          refine j_istore_n (pc := 91) C dX2_bestLane_91 (Nat.le_of_ble_eq_true rfl) (ls' := [(3, .int v15), (2, .int x4), (5, .int v15), (0, .ref x0), (1, .int x1), (4, .int x4)]) rfl ?_
          refine j_iinc (pc := 92) C dX2_bestLane_92 rfl (v := (x4 + (1 : Int32))) rfl (Nat.le_of_ble_eq_true rfl) (ls' := [(4, .int (x4 + (1 : Int32))), (3, .int v15), (2, .int x4), (5, .int v15), (0, .ref x0), (1, .int x1)]) rfl ?_
          refine j_goto (pc := 95) C dX2_bestLane_95 (tgt := 13) (by decide) ?_
          refine j_loc [4, 5, 2, 1, 0] rfl ?_
          exact h13 x0 x1 x4 v15 (x4 + (1 : Int32)) M14
theorem t_X2_bestLane_l13 {z : Sh9} {N : Nv9} {X : Cx9} {out : Out9 × Mem9} (C : OK9 z N X out 6 (co9 out.1) cX2_bestLane RX2 7 1 [])  : ∀ (n : Nat) (x0 : Nat) (x1 : Int32) (x2 : Int32) (x3 : Int32) (x4 : Int32) (M : Mem9), J9 z N X out 6 13 [(0, .ref x0), (1, .int x1), (2, .int x2), (3, .int x3), (4, .int x4)] [] M (0, 0) (fx9 (fun _ _ _ _ _ _ => none) (f_X2_bestLane_b13 z ) n x0 x1 x2 x3 x4 M) := by
  intro n
  induction n with
  | zero => intro x0 x1 x2 x3 x4 M; exact j_none
  | succ n ih => intro x0 x1 x2 x3 x4 M; exact t_X2_bestLane_b13 C  ih x0 x1 x2 x3 x4 M
def f_X2_bestLane (z : Sh9) (a0 : Nat) (a1 : Int32) (M : Mem9) : Re9 :=
  (bv9 (f_X2_checkLength z a1 M) fun M1 => (fx9 (fun _ _ _ _ _ _ => none) (f_X2_bestLane_b13 z ) FU9 a0 a1 (-1 : Int32) (401 : Int32) (0 : Int32) M1))
set_option maxRecDepth 20000 in
set_option maxHeartbeats 4000000 in
theorem t_X2_bestLane {z : Sh9} {N : Nv9} {X : Cx9} {out : Out9 × Mem9} (C : OK9 z N X out 6 (co9 out.1) cX2_bestLane RX2 7 1 []) (a0 : Nat) (a1 : Int32) (M : Mem9) : J9 z N X out 6 0 [(0, .ref a0), (1, .int a1)] [] M (0, 0) (f_X2_bestLane z a0 a1 M) := by
  refine j_iload_n (pc := 0) C dX2_bestLane_0 rfl ?_
  refine j_callSv (pc := 1) C rfl dX2_bestLane_1 ls_X2_192 rfl (Nat.le_of_ble_eq_true rfl) (Nat.le_of_ble_eq_true rfl) (by decide) (Or.inl rfl) ⟨Nat.le_refl _, Nat.le_refl _⟩ (fun l hl o ho => sp_X2_checkLength hl ho) (fun M1 => ?_)
  refine j_iconst (pc := 4) C dX2_bestLane_4 (v := -1) rfl ?_
  refine j_istore_n (pc := 5) C dX2_bestLane_5 (Nat.le_of_ble_eq_true rfl) (ls' := [(2, .int (-1 : Int32)), (0, .ref a0), (1, .int a1)]) rfl ?_
  refine j_sipush (pc := 6) C dX2_bestLane_6 (v := 401) rfl ?_
  refine j_istore_n (pc := 9) C dX2_bestLane_9 (Nat.le_of_ble_eq_true rfl) (ls' := [(3, .int (401 : Int32)), (2, .int (-1 : Int32)), (0, .ref a0), (1, .int a1)]) rfl ?_
  refine j_iconst (pc := 10) C dX2_bestLane_10 (v := 0) rfl ?_
  refine j_istore (pc := 11) C dX2_bestLane_11 (Nat.le_of_ble_eq_true rfl) (ls' := [(4, .int (0 : Int32)), (3, .int (401 : Int32)), (2, .int (-1 : Int32)), (0, .ref a0), (1, .int a1)]) rfl ?_
  refine j_loc [3, 4, 2, 1, 0] rfl ?_
  exact t_X2_bestLane_l13 C  FU9 a0 a1 (-1 : Int32) (401 : Int32) (0 : Int32) M1
theorem sp_X2_bestLane {l : Launch} {z : Sh9} {N : Nv9} {a0 : Nat} {a1 : Int32} {M : Mem9} {o : Out9 × Mem9} (hl : l.stackTraces = false) (h : f_X2_bestLane z a0 a1 M = some o) : Sp9 l z N yX2_bestLane (Cond.code yX2_bestLane cX2_bestLane 6 (some .int)) 7 [.ref a0, .int a1] M (co9 o.1) o :=
  sp9_of (rk := 1) (own := RX2) (by decide +kernel) rfl (Or.inr (Or.inl ⟨rfl, rfl⟩)) hl (Nat.le_of_ble_eq_true rfl) (fun X C => t_X2_bestLane C a0 a1 M) h
def f_X2_coming_b57 (z : Sh9) (r57 : Nat → Int32 → Int32 → Int32 → Int32 → Mem9 → Re9) (x0 : Nat) (x1 : Int32) (x2 : Int32) (x3 : Int32) (x4 : Int32) (M : Mem9) : Re9 :=
  (if x1 ≤ x4 then (if x2 = (0 : Int32) then ((rf9 z x0 2 23).bind fun v8 => (bi9 (iv9 z v8 0 (f_X0_total z v8 (4 : Int32) M)) fun v10 M9 => ((rf9 z x0 2 2).bind fun v11 => (bi9 (iv9 z v11 0 (f_X0_total z v11 (4 : Int32) M9)) fun v13 M12 => (ri9 (v10 - v13) M12))))) else (if x2 = (1 : Int32) then ((rf9 z x0 2 23).bind fun v15 => (bi9 (iv9 z v15 0 (f_X0_total z v15 (5 : Int32) M)) fun v17 M16 => ((rf9 z x0 2 2).bind fun v18 => (bi9 (iv9 z v18 0 (f_X0_total z v18 (5 : Int32) M16)) fun v20 M19 => (ri9 (v17 - v20) M19))))) else (if x2 = (2 : Int32) then ((rf9 z x0 2 23).bind fun v22 => (bi9 (iv9 z v22 0 (f_X0_total z v22 (6 : Int32) M)) fun v24 M23 => ((rf9 z x0 2 2).bind fun v25 => (bi9 (iv9 z v25 0 (f_X0_total z v25 (6 : Int32) M23)) fun v27 M26 => (ri9 (v24 - v27) M26))))) else (if x2 = (3 : Int32) then ((rf9 z x0 2 23).bind fun v29 => (bi9 (iv9 z v29 0 (f_X0_total z v29 (2 : Int32) M)) fun v31 M30 => (ri9 v31 M30))) else (ri9 x3 M))))) else ((rf9 z x0 2 23).bind fun v33 => (bi9 (iv9 z v33 0 (f_X0_letTicksGo z v33 (1 : Int32) M)) fun v35 M34 => ((rf9 z x0 2 23).bind fun v36 => (bi9 (iv9 z v36 0 (f_X0_armsUp z v36  M34)) fun v38 M37 => (nm9 (x3 + v38) fun (y39 : Int32) => (r57 x0 x1 x2 y39 (x4 + (1 : Int32)) M37)))))))
set_option maxRecDepth 20000 in
set_option maxHeartbeats 4000000 in
theorem t_X2_coming_b57 {z : Sh9} {N : Nv9} {X : Cx9} {out : Out9 × Mem9} (C : OK9 z N X out 5 (co9 out.1) cX2_coming RX2 6 1 []) {r57 : Nat → Int32 → Int32 → Int32 → Int32 → Mem9 → Re9} (h57 : ∀ (x0 : Nat) (x1 : Int32) (x2 : Int32) (x3 : Int32) (x4 : Int32) (M : Mem9), J9 z N X out 5 57 [(0, .ref x0), (1, .int x1), (2, .int x2), (3, .int x3), (4, .int x4)] [] M (0, 0) (r57 x0 x1 x2 x3 x4 M)) (x0 : Nat) (x1 : Int32) (x2 : Int32) (x3 : Int32) (x4 : Int32) (M : Mem9) : J9 z N X out 5 57 [(0, .ref x0), (1, .int x1), (2, .int x2), (3, .int x3), (4, .int x4)] [] M (0, 0) (f_X2_coming_b57 z r57 x0 x1 x2 x3 x4 M) := by
  refine j_iload (pc := 57) C dX2_coming_57 rfl ?_
  refine j_iload_n (pc := 59) C dX2_coming_59 rfl ?_
  refine j_icmp_ge (pc := 60) C dX2_coming_60 (tgt := 88) (by decide) (fun hc40 => ?_) (fun hc40 => ?_)
  · refine j_iload_n (pc := 88) C dX2_coming_88 rfl ?_
    refine j_ite (fun hc14 => ?_) (fun hc14 => ?_)
    · refine j_tsIn (pc := 89) C (0) dX2_coming_89 (by rw [hc14]; rfl) (by decide) (off := 31) rfl (tgt := 120) (by decide) ?_
      refine j_aload_n (pc := 120) C dX2_coming_120 rfl ?_
      refine j_getR (pc := 121) C dX2_coming_121 fl_X2_24 fr_X2_3 (fun v8 => ?_)
      refine j_iconst (pc := 124) C dX2_coming_124 (v := 4) rfl ?_
      refine j_callVi (pc := 125) C rfl dX2_coming_125 lv_X2_135 rfl (Nat.le_of_ble_eq_true rfl) (Nat.le_of_ble_eq_true rfl) (by decide) (Or.inl rfl) ⟨Nat.le_refl _, Nat.le_refl _⟩ (fun l hl o ho => sp_X0_total hl ho) (fun v10 M9 => ?_)
      refine j_aload_n (pc := 128) C dX2_coming_128 rfl ?_
      refine j_getR (pc := 129) C dX2_coming_129 fl_X2_20 fr_X2_2 (fun v11 => ?_)
      refine j_iconst (pc := 132) C dX2_coming_132 (v := 4) rfl ?_
      refine j_callVi (pc := 133) C rfl dX2_coming_133 lv_X2_135 rfl (Nat.le_of_ble_eq_true rfl) (Nat.le_of_ble_eq_true rfl) (by decide) (Or.inl rfl) ⟨Nat.le_refl _, Nat.le_refl _⟩ (fun l hl o ho => sp_X0_total hl ho) (fun v13 M12 => ?_)
      refine j_isub (pc := 136) C dX2_coming_136 ?_
      exact j_ireturn (pc := 137) C rfl dX2_coming_137 ⟨Nat.zero_le _, Nat.zero_le _⟩
    · refine j_ite (fun hc21 => ?_) (fun hc21 => ?_)
      · refine j_tsIn (pc := 89) C (1) dX2_coming_89 (by rw [hc21]; rfl) (by decide) (off := 49) rfl (tgt := 138) (by decide) ?_
        refine j_aload_n (pc := 138) C dX2_coming_138 rfl ?_
        refine j_getR (pc := 139) C dX2_coming_139 fl_X2_24 fr_X2_3 (fun v15 => ?_)
        refine j_iconst (pc := 142) C dX2_coming_142 (v := 5) rfl ?_
        refine j_callVi (pc := 143) C rfl dX2_coming_143 lv_X2_135 rfl (Nat.le_of_ble_eq_true rfl) (Nat.le_of_ble_eq_true rfl) (by decide) (Or.inl rfl) ⟨Nat.le_refl _, Nat.le_refl _⟩ (fun l hl o ho => sp_X0_total hl ho) (fun v17 M16 => ?_)
        refine j_aload_n (pc := 146) C dX2_coming_146 rfl ?_
        refine j_getR (pc := 147) C dX2_coming_147 fl_X2_20 fr_X2_2 (fun v18 => ?_)
        refine j_iconst (pc := 150) C dX2_coming_150 (v := 5) rfl ?_
        refine j_callVi (pc := 151) C rfl dX2_coming_151 lv_X2_135 rfl (Nat.le_of_ble_eq_true rfl) (Nat.le_of_ble_eq_true rfl) (by decide) (Or.inl rfl) ⟨Nat.le_refl _, Nat.le_refl _⟩ (fun l hl o ho => sp_X0_total hl ho) (fun v20 M19 => ?_)
        refine j_isub (pc := 154) C dX2_coming_154 ?_
        exact j_ireturn (pc := 155) C rfl dX2_coming_155 ⟨Nat.zero_le _, Nat.zero_le _⟩
      · refine j_ite (fun hc28 => ?_) (fun hc28 => ?_)
        · refine j_tsIn (pc := 89) C (2) dX2_coming_89 (by rw [hc28]; rfl) (by decide) (off := 67) rfl (tgt := 156) (by decide) ?_
          refine j_aload_n (pc := 156) C dX2_coming_156 rfl ?_
          refine j_getR (pc := 157) C dX2_coming_157 fl_X2_24 fr_X2_3 (fun v22 => ?_)
          refine j_bipush (pc := 160) C dX2_coming_160 (v := 6) rfl ?_
          refine j_callVi (pc := 162) C rfl dX2_coming_162 lv_X2_135 rfl (Nat.le_of_ble_eq_true rfl) (Nat.le_of_ble_eq_true rfl) (by decide) (Or.inl rfl) ⟨Nat.le_refl _, Nat.le_refl _⟩ (fun l hl o ho => sp_X0_total hl ho) (fun v24 M23 => ?_)
          refine j_aload_n (pc := 165) C dX2_coming_165 rfl ?_
          refine j_getR (pc := 166) C dX2_coming_166 fl_X2_20 fr_X2_2 (fun v25 => ?_)
          refine j_bipush (pc := 169) C dX2_coming_169 (v := 6) rfl ?_
          refine j_callVi (pc := 171) C rfl dX2_coming_171 lv_X2_135 rfl (Nat.le_of_ble_eq_true rfl) (Nat.le_of_ble_eq_true rfl) (by decide) (Or.inl rfl) ⟨Nat.le_refl _, Nat.le_refl _⟩ (fun l hl o ho => sp_X0_total hl ho) (fun v27 M26 => ?_)
          refine j_isub (pc := 174) C dX2_coming_174 ?_
          exact j_ireturn (pc := 175) C rfl dX2_coming_175 ⟨Nat.zero_le _, Nat.zero_le _⟩
        · refine j_ite (fun hc32 => ?_) (fun hc32 => ?_)
          · refine j_tsIn (pc := 89) C (3) dX2_coming_89 (by rw [hc32]; rfl) (by decide) (off := 87) rfl (tgt := 176) (by decide) ?_
            refine j_aload_n (pc := 176) C dX2_coming_176 rfl ?_
            refine j_getR (pc := 177) C dX2_coming_177 fl_X2_24 fr_X2_3 (fun v29 => ?_)
            refine j_iconst (pc := 180) C dX2_coming_180 (v := 2) rfl ?_
            refine j_callVi (pc := 181) C rfl dX2_coming_181 lv_X2_135 rfl (Nat.le_of_ble_eq_true rfl) (Nat.le_of_ble_eq_true rfl) (by decide) (Or.inl rfl) ⟨Nat.le_refl _, Nat.le_refl _⟩ (fun l hl o ho => sp_X0_total hl ho) (fun v31 M30 => ?_)
            exact j_ireturn (pc := 184) C rfl dX2_coming_184 ⟨Nat.zero_le _, Nat.zero_le _⟩
          · refine j_tsOut (pc := 89) C dX2_coming_89 (by have qhc14 := ne9 (k := 0) hc14 rfl; have qhc21 := ne9 (k := 1) hc21 rfl; have qhc28 := ne9 (k := 2) hc28 rfl; have qhc32 := ne9 (k := 3) hc32 rfl; omega) (tgt := 185) (by decide) ?_
            refine j_iload_n (pc := 185) C dX2_coming_185 rfl ?_
            exact j_ireturn (pc := 186) C rfl dX2_coming_186 ⟨Nat.zero_le _, Nat.zero_le _⟩
  · refine j_aload_n (pc := 63) C dX2_coming_63 rfl ?_
    refine j_getR (pc := 64) C dX2_coming_64 fl_X2_24 fr_X2_3 (fun v33 => ?_)
    refine j_iconst (pc := 67) C dX2_coming_67 (v := 1) rfl ?_
    refine j_callVi (pc := 68) C rfl dX2_coming_68 lv_X2_120 rfl (Nat.le_of_ble_eq_true rfl) (Nat.le_of_ble_eq_true rfl) (by decide) (Or.inl rfl) ⟨Nat.le_refl _, Nat.le_refl _⟩ (fun l hl o ho => sp_X0_letTicksGo hl ho) (fun v35 M34 => ?_)
    refine j_pop (pc := 71) C dX2_coming_71 rfl ?_
    refine j_iload_n (pc := 72) C dX2_coming_72 rfl ?_
    refine j_aload_n (pc := 73) C dX2_coming_73 rfl ?_
    refine j_getR (pc := 74) C dX2_coming_74 fl_X2_24 fr_X2_3 (fun v36 => ?_)
    refine j_callVi (pc := 77) C rfl dX2_coming_77 lv_X2_233 rfl (Nat.le_of_ble_eq_true rfl) (Nat.le_of_ble_eq_true rfl) (by decide) (Or.inl rfl) ⟨Nat.le_refl _, Nat.le_refl _⟩ (fun l hl o ho => sp_X0_armsUp hl ho) (fun v38 M37 => ?_)
    refine j_iadd (pc := 80) C dX2_coming_80 ?_
    refine j_nm (st' := fun x9 : Int32 => .int x9 :: []) rfl (fun y39 => ?_)
    refine j_istore_n (pc := 81) C dX2_coming_81 (Nat.le_of_ble_eq_true rfl) (ls' := [(3, .int y39), (0, .ref x0), (1, .int x1), (2, .int x2), (4, .int x4)]) rfl ?_
    refine j_iinc (pc := 82) C dX2_coming_82 rfl (v := (x4 + (1 : Int32))) rfl (Nat.le_of_ble_eq_true rfl) (ls' := [(4, .int (x4 + (1 : Int32))), (3, .int y39), (0, .ref x0), (1, .int x1), (2, .int x2)]) rfl ?_
    refine j_goto (pc := 85) C dX2_coming_85 (tgt := 57) (by decide) ?_
    refine j_loc [2, 3, 4, 1, 0] rfl ?_
    exact h57 x0 x1 x2 y39 (x4 + (1 : Int32)) M37
theorem t_X2_coming_l57 {z : Sh9} {N : Nv9} {X : Cx9} {out : Out9 × Mem9} (C : OK9 z N X out 5 (co9 out.1) cX2_coming RX2 6 1 [])  : ∀ (n : Nat) (x0 : Nat) (x1 : Int32) (x2 : Int32) (x3 : Int32) (x4 : Int32) (M : Mem9), J9 z N X out 5 57 [(0, .ref x0), (1, .int x1), (2, .int x2), (3, .int x3), (4, .int x4)] [] M (0, 0) (fx9 (fun _ _ _ _ _ _ => none) (f_X2_coming_b57 z ) n x0 x1 x2 x3 x4 M) := by
  intro n
  induction n with
  | zero => intro x0 x1 x2 x3 x4 M; exact j_none
  | succ n ih => intro x0 x1 x2 x3 x4 M; exact t_X2_coming_b57 C  ih x0 x1 x2 x3 x4 M
def f_X2_coming (z : Sh9) (a0 : Nat) (a1 : Int32) (a2 : Int32) (M : Mem9) : Re9 :=
  (if a1 < (1 : Int32) then (tx9 "java/lang/IllegalArgumentException" M) else (if a1 ≤ (400 : Int32) then (if a2 < 0 then (tx9 "java/lang/IllegalArgumentException" M) else (if a2 ≤ (4 : Int32) then ((rf9 z a0 2 23).bind fun v1 => ((rf9 z a0 2 2).bind fun v2 => (bv9 (iv9 z v1 0 (f_X0_copyFrom z v1 v2 M)) fun M3 => (fx9 (fun _ _ _ _ _ _ => none) (f_X2_coming_b57 z ) FU9 a0 a1 a2 (0 : Int32) (0 : Int32) M3)))) else (tx9 "java/lang/IllegalArgumentException" M))) else (tx9 "java/lang/IllegalArgumentException" M)))
set_option maxRecDepth 20000 in
set_option maxHeartbeats 4000000 in
theorem t_X2_coming {z : Sh9} {N : Nv9} {X : Cx9} {out : Out9 × Mem9} (C : OK9 z N X out 5 (co9 out.1) cX2_coming RX2 6 1 []) (a0 : Nat) (a1 : Int32) (a2 : Int32) (M : Mem9) : J9 z N X out 5 0 [(0, .ref a0), (1, .int a1), (2, .int a2)] [] M (0, 0) (f_X2_coming z a0 a1 a2 M) := by
  refine j_iload_n (pc := 0) C dX2_coming_0 rfl ?_
  refine j_iconst (pc := 1) C dX2_coming_1 (v := 1) rfl ?_
  refine j_icmp_lt (pc := 2) C dX2_coming_2 (tgt := 12) (by decide) (fun hc7 => ?_) (fun hc7 => ?_)
  · exact j_throw (pc := 12) C rfl th_X2_coming_12 (by decide) (Nat.le_of_ble_eq_true rfl) rfl ⟨Nat.le_refl _, Nat.le_refl _⟩
  · refine j_iload_n (pc := 5) C dX2_coming_5 rfl ?_
    refine j_sipush (pc := 6) C dX2_coming_6 (v := 400) rfl ?_
    refine j_icmp_le (pc := 9) C dX2_coming_9 (tgt := 22) (by decide) (fun hc6 => ?_) (fun hc6 => ?_)
    · refine j_iload_n (pc := 22) C dX2_coming_22 rfl ?_
      refine j_if_lt (pc := 23) C dX2_coming_23 (tgt := 31) (by decide) (fun hc5 => ?_) (fun hc5 => ?_)
      · exact j_throw (pc := 31) C rfl th_X2_coming_31 (by decide) (Nat.le_of_ble_eq_true rfl) rfl ⟨Nat.le_refl _, Nat.le_refl _⟩
      · refine j_iload_n (pc := 26) C dX2_coming_26 rfl ?_
        refine j_iconst (pc := 27) C dX2_coming_27 (v := 4) rfl ?_
        refine j_icmp_le (pc := 28) C dX2_coming_28 (tgt := 41) (by decide) (fun hc4 => ?_) (fun hc4 => ?_)
        · refine j_aload_n (pc := 41) C dX2_coming_41 rfl ?_
          refine j_getR (pc := 42) C dX2_coming_42 fl_X2_24 fr_X2_3 (fun v1 => ?_)
          refine j_aload_n (pc := 45) C dX2_coming_45 rfl ?_
          refine j_getR (pc := 46) C dX2_coming_46 fl_X2_20 fr_X2_2 (fun v2 => ?_)
          refine j_callVv (pc := 49) C rfl dX2_coming_49 lv_X2_220 rfl (Nat.le_of_ble_eq_true rfl) (Nat.le_of_ble_eq_true rfl) (by decide) (Or.inl rfl) ⟨Nat.le_refl _, Nat.le_refl _⟩ (fun l hl o ho => sp_X0_copyFrom hl ho) (fun M3 => ?_)
          refine j_iconst (pc := 52) C dX2_coming_52 (v := 0) rfl ?_
          refine j_istore_n (pc := 53) C dX2_coming_53 (Nat.le_of_ble_eq_true rfl) (ls' := [(3, .int (0 : Int32)), (0, .ref a0), (1, .int a1), (2, .int a2)]) rfl ?_
          refine j_iconst (pc := 54) C dX2_coming_54 (v := 0) rfl ?_
          refine j_istore (pc := 55) C dX2_coming_55 (Nat.le_of_ble_eq_true rfl) (ls' := [(4, .int (0 : Int32)), (3, .int (0 : Int32)), (0, .ref a0), (1, .int a1), (2, .int a2)]) rfl ?_
          refine j_loc [2, 3, 4, 1, 0] rfl ?_
          exact t_X2_coming_l57 C  FU9 a0 a1 a2 (0 : Int32) (0 : Int32) M3
        · exact j_throw (pc := 31) C rfl th_X2_coming_31 (by decide) (Nat.le_of_ble_eq_true rfl) rfl ⟨Nat.le_refl _, Nat.le_refl _⟩
    · exact j_throw (pc := 12) C rfl th_X2_coming_12 (by decide) (Nat.le_of_ble_eq_true rfl) rfl ⟨Nat.le_refl _, Nat.le_refl _⟩
theorem sp_X2_coming {l : Launch} {z : Sh9} {N : Nv9} {a0 : Nat} {a1 : Int32} {a2 : Int32} {M : Mem9} {o : Out9 × Mem9} (hl : l.stackTraces = false) (h : f_X2_coming z a0 a1 a2 M = some o) : Sp9 l z N yX2_coming (Cond.code yX2_coming cX2_coming 5 (some .int)) 6 [.ref a0, .int a1, .int a2] M (co9 o.1) o :=
  sp9_of (rk := 1) (own := RX2) (by decide +kernel) rfl (Or.inr (Or.inl ⟨rfl, rfl⟩)) hl (Nat.le_of_ble_eq_true rfl) (fun X C => t_X2_coming C a0 a1 a2 M) h
def f_X2_checkLane (z : Sh9) (a0 : Nat) (a1 : Int32) (M : Mem9) : Re9 :=
  ((rf9 z a0 2 2).bind fun v1 => (bi9 (iv9 z v1 0 (f_X0_hasLane z v1 a1 M)) fun v3 M2 => (if v3 = 0 then (tx9 "java/lang/IndexOutOfBoundsException" M2) else (rv9 M2))))
set_option maxRecDepth 20000 in
set_option maxHeartbeats 4000000 in
theorem t_X2_checkLane {z : Sh9} {N : Nv9} {X : Cx9} {out : Out9 × Mem9} (C : OK9 z N X out 2 (co9 out.1) cX2_checkLane RX2 6 0 []) (a0 : Nat) (a1 : Int32) (M : Mem9) : J9 z N X out 2 0 [(0, .ref a0), (1, .int a1)] [] M (0, 0) (f_X2_checkLane z a0 a1 M) := by
  refine j_aload_n (pc := 0) C dX2_checkLane_0 rfl ?_
  refine j_getR (pc := 1) C dX2_checkLane_1 fl_X2_20 fr_X2_2 (fun v1 => ?_)
  refine j_iload_n (pc := 4) C dX2_checkLane_4 rfl ?_
  refine j_callVi (pc := 5) C rfl dX2_checkLane_5 lv_X2_172 rfl (Nat.le_of_ble_eq_true rfl) (Nat.le_of_ble_eq_true rfl) (by decide) (Or.inl rfl) ⟨Nat.le_refl _, Nat.le_refl _⟩ (fun l hl o ho => sp_X0_hasLane hl ho) (fun v3 M2 => ?_)
  refine j_if_ne (pc := 8) C dX2_checkLane_8 (tgt := 21) (by decide) (fun hc4 => ?_) (fun hc4 => ?_)
  · exact j_return (pc := 21) C rfl dX2_checkLane_21 ⟨Nat.zero_le _, Nat.zero_le _⟩
  · exact j_throw (pc := 11) C rfl th_X2_checkLane_11 (by decide) (Nat.le_of_ble_eq_true rfl) rfl ⟨Nat.le_refl _, Nat.le_refl _⟩
theorem sp_X2_checkLane {l : Launch} {z : Sh9} {N : Nv9} {a0 : Nat} {a1 : Int32} {M : Mem9} {o : Out9 × Mem9} (hl : l.stackTraces = false) (h : f_X2_checkLane z a0 a1 M = some o) : Sp9 l z N yX2_checkLane (Cond.code yX2_checkLane cX2_checkLane 2 none) 6 [.ref a0, .int a1] M (co9 o.1) o :=
  sp9_of (rk := 0) (own := RX2) (by decide +kernel) rfl (Or.inl ⟨rfl, rfl⟩) hl (Nat.le_of_ble_eq_true rfl) (fun X C => t_X2_checkLane C a0 a1 M) h
def f_X2_emptyIn_b28 (z : Sh9) (r28 : Nat → Nat → Int32 → Mem9 → Re9) (x0 : Nat) (x2 : Nat) (x3 : Int32) (M : Mem9) : Re9 :=
  (if (400 : Int32) < x3 then (ri9 (-1 : Int32) M) else ((gf9 z M x2 1 5).bind fun v8 => (if v8 = 0 then (ri9 x3 M) else ((rf9 z x0 2 23).bind fun v9 => ((rf9 z v9 0 2).bind fun v10 => (bv9 (iv9 z x2 1 (f_X1_tick z x2 v10 M)) fun M11 => (r28 x0 x2 (x3 + (1 : Int32)) M11)))))))
set_option maxRecDepth 20000 in
set_option maxHeartbeats 4000000 in
theorem t_X2_emptyIn_b28 {z : Sh9} {N : Nv9} {X : Cx9} {out : Out9 × Mem9} (C : OK9 z N X out 4 (co9 out.1) cX2_emptyIn RX2 7 1 []) {r28 : Nat → Nat → Int32 → Mem9 → Re9} (h28 : ∀ (x0 : Nat) (x2 : Nat) (x3 : Int32) (M : Mem9), J9 z N X out 4 28 [(0, .ref x0), (2, .ref x2), (3, .int x3)] [] M (0, 0) (r28 x0 x2 x3 M)) (x0 : Nat) (x2 : Nat) (x3 : Int32) (M : Mem9) : J9 z N X out 4 28 [(0, .ref x0), (2, .ref x2), (3, .int x3)] [] M (0, 0) (f_X2_emptyIn_b28 z r28 x0 x2 x3 M) := by
  refine j_iload_n (pc := 28) C dX2_emptyIn_28 rfl ?_
  refine j_sipush (pc := 29) C dX2_emptyIn_29 (v := 400) rfl ?_
  refine j_icmp_gt (pc := 32) C dX2_emptyIn_32 (tgt := 61) (by decide) (fun hc13 => ?_) (fun hc13 => ?_)
  · refine j_iconst (pc := 61) C dX2_emptyIn_61 (v := -1) rfl ?_
    exact j_ireturn (pc := 62) C rfl dX2_emptyIn_62 ⟨Nat.zero_le _, Nat.zero_le _⟩
  · refine j_aload_n (pc := 35) C dX2_emptyIn_35 rfl ?_
    refine j_getI (pc := 36) C dX2_emptyIn_36 fl_X2_195 fi_X1_5 (fun v8 => ?_)
    refine j_if_ne (pc := 39) C dX2_emptyIn_39 (tgt := 44) (by decide) (fun hc12 => ?_) (fun hc12 => ?_)
    · refine j_aload_n (pc := 44) C dX2_emptyIn_44 rfl ?_
      refine j_aload_n (pc := 45) C dX2_emptyIn_45 rfl ?_
      refine j_getR (pc := 46) C dX2_emptyIn_46 fl_X2_24 fr_X2_3 (fun v9 => ?_)
      refine j_getR (pc := 49) C dX2_emptyIn_49 fl_X2_168 fr_X0_1 (fun v10 => ?_)
      refine j_callVv (pc := 52) C rfl dX2_emptyIn_52 lv_X2_224 rfl (Nat.le_of_ble_eq_true rfl) (Nat.le_of_ble_eq_true rfl) (by decide) (Or.inl rfl) ⟨Nat.le_refl _, Nat.le_refl _⟩ (fun l hl o ho => sp_X1_tick hl ho) (fun M11 => ?_)
      refine j_iinc (pc := 55) C dX2_emptyIn_55 rfl (v := (x3 + (1 : Int32))) rfl (Nat.le_of_ble_eq_true rfl) (ls' := [(3, .int (x3 + (1 : Int32))), (0, .ref x0), (2, .ref x2)]) rfl ?_
      refine j_goto (pc := 58) C dX2_emptyIn_58 (tgt := 28) (by decide) ?_
      refine j_loc [1, 2, 0] rfl ?_
      exact h28 x0 x2 (x3 + (1 : Int32)) M11
    · refine j_iload_n (pc := 42) C dX2_emptyIn_42 rfl ?_
      exact j_ireturn (pc := 43) C rfl dX2_emptyIn_43 ⟨Nat.zero_le _, Nat.zero_le _⟩
theorem t_X2_emptyIn_l28 {z : Sh9} {N : Nv9} {X : Cx9} {out : Out9 × Mem9} (C : OK9 z N X out 4 (co9 out.1) cX2_emptyIn RX2 7 1 [])  : ∀ (n : Nat) (x0 : Nat) (x2 : Nat) (x3 : Int32) (M : Mem9), J9 z N X out 4 28 [(0, .ref x0), (2, .ref x2), (3, .int x3)] [] M (0, 0) (fx9 (fun _ _ _ _ => none) (f_X2_emptyIn_b28 z ) n x0 x2 x3 M) := by
  intro n
  induction n with
  | zero => intro x0 x2 x3 M; exact j_none
  | succ n ih => intro x0 x2 x3 M; exact t_X2_emptyIn_b28 C  ih x0 x2 x3 M
def f_X2_emptyIn (z : Sh9) (a0 : Nat) (a1 : Int32) (M : Mem9) : Re9 :=
  (bv9 (iv9 z a0 2 (f_X2_checkLane z a0 a1 M)) fun M1 => ((rf9 z a0 2 23).bind fun v2 => ((rf9 z a0 2 2).bind fun v3 => (bv9 (iv9 z v2 0 (f_X0_copyFrom z v2 v3 M1)) fun M4 => ((rf9 z a0 2 23).bind fun v5 => ((rf9 z v5 0 1).bind fun v6 => ((la9 z 14 v6 a1).bind fun v7 => (fx9 (fun _ _ _ _ => none) (f_X2_emptyIn_b28 z ) FU9 a0 v7 (0 : Int32) M4))))))))
set_option maxRecDepth 20000 in
set_option maxHeartbeats 4000000 in
theorem t_X2_emptyIn {z : Sh9} {N : Nv9} {X : Cx9} {out : Out9 × Mem9} (C : OK9 z N X out 4 (co9 out.1) cX2_emptyIn RX2 7 1 []) (a0 : Nat) (a1 : Int32) (M : Mem9) : J9 z N X out 4 0 [(0, .ref a0), (1, .int a1)] [] M (0, 0) (f_X2_emptyIn z a0 a1 M) := by
  refine j_aload_n (pc := 0) C dX2_emptyIn_0 rfl ?_
  refine j_iload_n (pc := 1) C dX2_emptyIn_1 rfl ?_
  refine j_callVv (pc := 2) C rfl dX2_emptyIn_2 lv_X2_138 rfl (Nat.le_of_ble_eq_true rfl) (Nat.le_of_ble_eq_true rfl) (by decide) (Or.inl rfl) ⟨Nat.le_refl _, Nat.le_refl _⟩ (fun l hl o ho => sp_X2_checkLane hl ho) (fun M1 => ?_)
  refine j_aload_n (pc := 5) C dX2_emptyIn_5 rfl ?_
  refine j_getR (pc := 6) C dX2_emptyIn_6 fl_X2_24 fr_X2_3 (fun v2 => ?_)
  refine j_aload_n (pc := 9) C dX2_emptyIn_9 rfl ?_
  refine j_getR (pc := 10) C dX2_emptyIn_10 fl_X2_20 fr_X2_2 (fun v3 => ?_)
  refine j_callVv (pc := 13) C rfl dX2_emptyIn_13 lv_X2_220 rfl (Nat.le_of_ble_eq_true rfl) (Nat.le_of_ble_eq_true rfl) (by decide) (Or.inl rfl) ⟨Nat.le_refl _, Nat.le_refl _⟩ (fun l hl o ho => sp_X0_copyFrom hl ho) (fun M4 => ?_)
  refine j_aload_n (pc := 16) C dX2_emptyIn_16 rfl ?_
  refine j_getR (pc := 17) C dX2_emptyIn_17 fl_X2_24 fr_X2_3 (fun v5 => ?_)
  refine j_getR (pc := 20) C dX2_emptyIn_20 fl_X2_144 fr_X0_0 (fun v6 => ?_)
  refine j_iload_n (pc := 23) C dX2_emptyIn_23 rfl ?_
  refine j_aaload (t := 14) (pc := 24) C dX2_emptyIn_24 (by decide) (fun v7 => ?_)
  refine j_astore_n (pc := 25) C dX2_emptyIn_25 (Nat.le_of_ble_eq_true rfl) (ls' := [(2, .ref v7), (0, .ref a0), (1, .int a1)]) rfl ?_
  refine j_iconst (pc := 26) C dX2_emptyIn_26 (v := 0) rfl ?_
  refine j_istore_n (pc := 27) C dX2_emptyIn_27 (Nat.le_of_ble_eq_true rfl) (ls' := [(3, .int (0 : Int32)), (2, .ref v7), (0, .ref a0), (1, .int a1)]) rfl ?_
  refine j_loc [2, 1, 0] rfl ?_
  exact t_X2_emptyIn_l28 C  FU9 a0 v7 (0 : Int32) M4
theorem sp_X2_emptyIn {l : Launch} {z : Sh9} {N : Nv9} {a0 : Nat} {a1 : Int32} {M : Mem9} {o : Out9 × Mem9} (hl : l.stackTraces = false) (h : f_X2_emptyIn z a0 a1 M = some o) : Sp9 l z N yX2_emptyIn (Cond.code yX2_emptyIn cX2_emptyIn 4 (some .int)) 7 [.ref a0, .int a1] M (co9 o.1) o :=
  sp9_of (rk := 1) (own := RX2) (by decide +kernel) rfl (Or.inr (Or.inl ⟨rfl, rfl⟩)) hl (Nat.le_of_ble_eq_true rfl) (fun X C => t_X2_emptyIn C a0 a1 M) h
def f_X2_hitsIn_b44 (z : Sh9) (r44 : Nat → Nat → Int32 → Int32 → Mem9 → Re9) (x0 : Nat) (x2 : Nat) (x3 : Int32) (x4 : Int32) (M : Mem9) : Re9 :=
  (if (400 : Int32) < x4 then (ri9 (-1 : Int32) M) else ((rf9 z x0 2 23).bind fun v12 => ((rf9 z v12 0 2).bind fun v13 => (bv9 (iv9 z x2 1 (f_X1_tick z x2 v13 M)) fun M14 => ((gf9 z M14 x2 1 15).bind fun v15 => (if v15 ≤ x3 then (r44 x0 x2 x3 (x4 + (1 : Int32)) M14) else (ri9 x4 M14)))))))
set_option maxRecDepth 20000 in
set_option maxHeartbeats 4000000 in
theorem t_X2_hitsIn_b44 {z : Sh9} {N : Nv9} {X : Cx9} {out : Out9 × Mem9} (C : OK9 z N X out 5 (co9 out.1) cX2_hitsIn RX2 7 1 []) {r44 : Nat → Nat → Int32 → Int32 → Mem9 → Re9} (h44 : ∀ (x0 : Nat) (x2 : Nat) (x3 : Int32) (x4 : Int32) (M : Mem9), J9 z N X out 5 44 [(0, .ref x0), (2, .ref x2), (3, .int x3), (4, .int x4)] [] M (0, 0) (r44 x0 x2 x3 x4 M)) (x0 : Nat) (x2 : Nat) (x3 : Int32) (x4 : Int32) (M : Mem9) : J9 z N X out 5 44 [(0, .ref x0), (2, .ref x2), (3, .int x3), (4, .int x4)] [] M (0, 0) (f_X2_hitsIn_b44 z r44 x0 x2 x3 x4 M) := by
  refine j_iload (pc := 44) C dX2_hitsIn_44 rfl ?_
  refine j_sipush (pc := 46) C dX2_hitsIn_46 (v := 400) rfl ?_
  refine j_icmp_gt (pc := 49) C dX2_hitsIn_49 (tgt := 80) (by decide) (fun hc17 => ?_) (fun hc17 => ?_)
  · refine j_iconst (pc := 80) C dX2_hitsIn_80 (v := -1) rfl ?_
    exact j_ireturn (pc := 81) C rfl dX2_hitsIn_81 ⟨Nat.zero_le _, Nat.zero_le _⟩
  · refine j_aload_n (pc := 52) C dX2_hitsIn_52 rfl ?_
    refine j_aload_n (pc := 53) C dX2_hitsIn_53 rfl ?_
    refine j_getR (pc := 54) C dX2_hitsIn_54 fl_X2_24 fr_X2_3 (fun v12 => ?_)
    refine j_getR (pc := 57) C dX2_hitsIn_57 fl_X2_168 fr_X0_1 (fun v13 => ?_)
    refine j_callVv (pc := 60) C rfl dX2_hitsIn_60 lv_X2_224 rfl (Nat.le_of_ble_eq_true rfl) (Nat.le_of_ble_eq_true rfl) (by decide) (Or.inl rfl) ⟨Nat.le_refl _, Nat.le_refl _⟩ (fun l hl o ho => sp_X1_tick hl ho) (fun M14 => ?_)
    refine j_aload_n (pc := 63) C dX2_hitsIn_63 rfl ?_
    refine j_getI (pc := 64) C dX2_hitsIn_64 fl_X2_236 fi_X1_15 (fun v15 => ?_)
    refine j_iload_n (pc := 67) C dX2_hitsIn_67 rfl ?_
    refine j_icmp_le (pc := 68) C dX2_hitsIn_68 (tgt := 74) (by decide) (fun hc16 => ?_) (fun hc16 => ?_)
    · refine j_iinc (pc := 74) C dX2_hitsIn_74 rfl (v := (x4 + (1 : Int32))) rfl (Nat.le_of_ble_eq_true rfl) (ls' := [(4, .int (x4 + (1 : Int32))), (0, .ref x0), (2, .ref x2), (3, .int x3)]) rfl ?_
      refine j_goto (pc := 77) C dX2_hitsIn_77 (tgt := 44) (by decide) ?_
      refine j_loc [1, 2, 3, 0] rfl ?_
      exact h44 x0 x2 x3 (x4 + (1 : Int32)) M14
    · refine j_iload (pc := 71) C dX2_hitsIn_71 rfl ?_
      exact j_ireturn (pc := 73) C rfl dX2_hitsIn_73 ⟨Nat.zero_le _, Nat.zero_le _⟩
theorem t_X2_hitsIn_l44 {z : Sh9} {N : Nv9} {X : Cx9} {out : Out9 × Mem9} (C : OK9 z N X out 5 (co9 out.1) cX2_hitsIn RX2 7 1 [])  : ∀ (n : Nat) (x0 : Nat) (x2 : Nat) (x3 : Int32) (x4 : Int32) (M : Mem9), J9 z N X out 5 44 [(0, .ref x0), (2, .ref x2), (3, .int x3), (4, .int x4)] [] M (0, 0) (fx9 (fun _ _ _ _ _ => none) (f_X2_hitsIn_b44 z ) n x0 x2 x3 x4 M) := by
  intro n
  induction n with
  | zero => intro x0 x2 x3 x4 M; exact j_none
  | succ n ih => intro x0 x2 x3 x4 M; exact t_X2_hitsIn_b44 C  ih x0 x2 x3 x4 M
def f_X2_hitsIn (z : Sh9) (a0 : Nat) (a1 : Int32) (M : Mem9) : Re9 :=
  (bv9 (iv9 z a0 2 (f_X2_checkLane z a0 a1 M)) fun M1 => ((rf9 z a0 2 23).bind fun v2 => ((rf9 z a0 2 2).bind fun v3 => (bv9 (iv9 z v2 0 (f_X0_copyFrom z v2 v3 M1)) fun M4 => ((rf9 z a0 2 23).bind fun v5 => (bi9 (iv9 z v5 0 (f_X0_changeLoop z v5 a1 (1 : Int32) M4)) fun v7 M6 => ((rf9 z a0 2 23).bind fun v8 => ((rf9 z v8 0 1).bind fun v9 => ((la9 z 14 v9 a1).bind fun v10 => ((gf9 z M6 v10 1 15).bind fun v11 => (fx9 (fun _ _ _ _ _ => none) (f_X2_hitsIn_b44 z ) FU9 a0 v10 v11 (1 : Int32) M6)))))))))))
set_option maxRecDepth 20000 in
set_option maxHeartbeats 4000000 in
theorem t_X2_hitsIn {z : Sh9} {N : Nv9} {X : Cx9} {out : Out9 × Mem9} (C : OK9 z N X out 5 (co9 out.1) cX2_hitsIn RX2 7 1 []) (a0 : Nat) (a1 : Int32) (M : Mem9) : J9 z N X out 5 0 [(0, .ref a0), (1, .int a1)] [] M (0, 0) (f_X2_hitsIn z a0 a1 M) := by
  refine j_aload_n (pc := 0) C dX2_hitsIn_0 rfl ?_
  refine j_iload_n (pc := 1) C dX2_hitsIn_1 rfl ?_
  refine j_callVv (pc := 2) C rfl dX2_hitsIn_2 lv_X2_138 rfl (Nat.le_of_ble_eq_true rfl) (Nat.le_of_ble_eq_true rfl) (by decide) (Or.inl rfl) ⟨Nat.le_refl _, Nat.le_refl _⟩ (fun l hl o ho => sp_X2_checkLane hl ho) (fun M1 => ?_)
  refine j_aload_n (pc := 5) C dX2_hitsIn_5 rfl ?_
  refine j_getR (pc := 6) C dX2_hitsIn_6 fl_X2_24 fr_X2_3 (fun v2 => ?_)
  refine j_aload_n (pc := 9) C dX2_hitsIn_9 rfl ?_
  refine j_getR (pc := 10) C dX2_hitsIn_10 fl_X2_20 fr_X2_2 (fun v3 => ?_)
  refine j_callVv (pc := 13) C rfl dX2_hitsIn_13 lv_X2_220 rfl (Nat.le_of_ble_eq_true rfl) (Nat.le_of_ble_eq_true rfl) (by decide) (Or.inl rfl) ⟨Nat.le_refl _, Nat.le_refl _⟩ (fun l hl o ho => sp_X0_copyFrom hl ho) (fun M4 => ?_)
  refine j_aload_n (pc := 16) C dX2_hitsIn_16 rfl ?_
  refine j_getR (pc := 17) C dX2_hitsIn_17 fl_X2_24 fr_X2_3 (fun v5 => ?_)
  refine j_iload_n (pc := 20) C dX2_hitsIn_20 rfl ?_
  refine j_iconst (pc := 21) C dX2_hitsIn_21 (v := 1) rfl ?_
  refine j_callVi (pc := 22) C rfl dX2_hitsIn_22 lv_X2_110 rfl (Nat.le_of_ble_eq_true rfl) (Nat.le_of_ble_eq_true rfl) (by decide) (Or.inl rfl) ⟨Nat.le_refl _, Nat.le_refl _⟩ (fun l hl o ho => sp_X0_changeLoop hl ho) (fun v7 M6 => ?_)
  refine j_pop (pc := 25) C dX2_hitsIn_25 rfl ?_
  refine j_aload_n (pc := 26) C dX2_hitsIn_26 rfl ?_
  refine j_getR (pc := 27) C dX2_hitsIn_27 fl_X2_24 fr_X2_3 (fun v8 => ?_)
  refine j_getR (pc := 30) C dX2_hitsIn_30 fl_X2_144 fr_X0_0 (fun v9 => ?_)
  refine j_iload_n (pc := 33) C dX2_hitsIn_33 rfl ?_
  refine j_aaload (t := 14) (pc := 34) C dX2_hitsIn_34 (by decide) (fun v10 => ?_)
  refine j_astore_n (pc := 35) C dX2_hitsIn_35 (Nat.le_of_ble_eq_true rfl) (ls' := [(2, .ref v10), (0, .ref a0), (1, .int a1)]) rfl ?_
  refine j_aload_n (pc := 36) C dX2_hitsIn_36 rfl ?_
  refine j_getI (pc := 37) C dX2_hitsIn_37 fl_X2_236 fi_X1_15 (fun v11 => ?_)
  refine j_istore_n (pc := 40) C dX2_hitsIn_40 (Nat.le_of_ble_eq_true rfl) (ls' := [(3, .int v11), (2, .ref v10), (0, .ref a0), (1, .int a1)]) rfl ?_
  refine j_iconst (pc := 41) C dX2_hitsIn_41 (v := 1) rfl ?_
  refine j_istore (pc := 42) C dX2_hitsIn_42 (Nat.le_of_ble_eq_true rfl) (ls' := [(4, .int (1 : Int32)), (3, .int v11), (2, .ref v10), (0, .ref a0), (1, .int a1)]) rfl ?_
  refine j_loc [3, 2, 1, 0] rfl ?_
  exact t_X2_hitsIn_l44 C  FU9 a0 v10 v11 (1 : Int32) M6
theorem sp_X2_hitsIn {l : Launch} {z : Sh9} {N : Nv9} {a0 : Nat} {a1 : Int32} {M : Mem9} {o : Out9 × Mem9} (hl : l.stackTraces = false) (h : f_X2_hitsIn z a0 a1 M = some o) : Sp9 l z N yX2_hitsIn (Cond.code yX2_hitsIn cX2_hitsIn 5 (some .int)) 7 [.ref a0, .int a1] M (co9 o.1) o :=
  sp9_of (rk := 1) (own := RX2) (by decide +kernel) rfl (Or.inr (Or.inl ⟨rfl, rfl⟩)) hl (Nat.le_of_ble_eq_true rfl) (fun X C => t_X2_hitsIn C a0 a1 M) h
def f_X2_save (z : Sh9) (a0 : Nat) (a1 : Int32) (M : Mem9) : Re9 :=
  (bv9 (f_X2_checkSlot z a1 M) fun M1 => ((rf9 z a0 2 45).bind fun v2 => ((la9 z 16 v2 a1).bind fun v3 => ((rf9 z a0 2 2).bind fun v4 => (bv9 (iv9 z v3 0 (f_X0_copyFrom z v3 v4 M1)) fun M5 => ((rf9 z a0 2 46).bind fun v6 => ((sz9 z M5 v6 a1 (1 : Int32)).bind fun M7 => ((rf9 z a0 2 2).bind fun v8 => ((gf9 z M7 v8 0 3).bind fun v9 => (ri9 v9 M7))))))))))
set_option maxRecDepth 20000 in
set_option maxHeartbeats 4000000 in
theorem t_X2_save {z : Sh9} {N : Nv9} {X : Cx9} {out : Out9 × Mem9} (C : OK9 z N X out 2 (co9 out.1) cX2_save RX2 7 1 []) (a0 : Nat) (a1 : Int32) (M : Mem9) : J9 z N X out 2 0 [(0, .ref a0), (1, .int a1)] [] M (0, 0) (f_X2_save z a0 a1 M) := by
  refine j_iload_n (pc := 0) C dX2_save_0 rfl ?_
  refine j_callSv (pc := 1) C rfl dX2_save_1 ls_X2_272 rfl (Nat.le_of_ble_eq_true rfl) (Nat.le_of_ble_eq_true rfl) (by decide) (Or.inl rfl) ⟨Nat.le_refl _, Nat.le_refl _⟩ (fun l hl o ho => sp_X2_checkSlot hl ho) (fun M1 => ?_)
  refine j_aload_n (pc := 4) C dX2_save_4 rfl ?_
  refine j_getR (pc := 5) C dX2_save_5 fl_X2_37 fr_X2_7 (fun v2 => ?_)
  refine j_iload_n (pc := 8) C dX2_save_8 rfl ?_
  refine j_aaload (t := 16) (pc := 9) C dX2_save_9 (by decide) (fun v3 => ?_)
  refine j_aload_n (pc := 10) C dX2_save_10 rfl ?_
  refine j_getR (pc := 11) C dX2_save_11 fl_X2_20 fr_X2_2 (fun v4 => ?_)
  refine j_callVv (pc := 14) C rfl dX2_save_14 lv_X2_220 rfl (Nat.le_of_ble_eq_true rfl) (Nat.le_of_ble_eq_true rfl) (by decide) (Or.inl rfl) ⟨Nat.le_refl _, Nat.le_refl _⟩ (fun l hl o ho => sp_X0_copyFrom hl ho) (fun M5 => ?_)
  refine j_aload_n (pc := 17) C dX2_save_17 rfl ?_
  refine j_getR (pc := 18) C dX2_save_18 fl_X2_40 fr_X2_8 (fun v6 => ?_)
  refine j_iload_n (pc := 21) C dX2_save_21 rfl ?_
  refine j_iconst (pc := 22) C dX2_save_22 (v := 1) rfl ?_
  refine j_bastore (pc := 23) C dX2_save_23 (fun M7 => ?_)
  refine j_aload_n (pc := 24) C dX2_save_24 rfl ?_
  refine j_getR (pc := 25) C dX2_save_25 fl_X2_20 fr_X2_2 (fun v8 => ?_)
  refine j_getI (pc := 28) C dX2_save_28 fl_X2_132 fi_X0_3 (fun v9 => ?_)
  exact j_ireturn (pc := 31) C rfl dX2_save_31 ⟨Nat.zero_le _, Nat.zero_le _⟩
theorem sp_X2_save {l : Launch} {z : Sh9} {N : Nv9} {a0 : Nat} {a1 : Int32} {M : Mem9} {o : Out9 × Mem9} (hl : l.stackTraces = false) (h : f_X2_save z a0 a1 M = some o) : Sp9 l z N yX2_save (Cond.code yX2_save cX2_save 2 (some .int)) 7 [.ref a0, .int a1] M (co9 o.1) o :=
  sp9_of (rk := 1) (own := RX2) (by decide +kernel) rfl (Or.inr (Or.inl ⟨rfl, rfl⟩)) hl (Nat.le_of_ble_eq_true rfl) (fun X C => t_X2_save C a0 a1 M) h
def f_X2_laneOf (z : Sh9) (a0 : Nat) (a1 : Int32) (a2 : Int32) (M : Mem9) : Re9 :=
  (bv9 (iv9 z a0 2 (f_X2_checkLane z a0 a1 M)) fun M1 => (if a2 < 0 then (tx9 "java/lang/IllegalArgumentException" M1) else (if a2 ≤ (7 : Int32) then ((rf9 z a0 2 2).bind fun v2 => ((rf9 z v2 0 1).bind fun v3 => ((la9 z 14 v3 a1).bind fun v4 => (bi9 (iv9 z v4 1 (f_X1_number z v4 a2 M1)) fun v6 M5 => (ri9 v6 M5))))) else (tx9 "java/lang/IllegalArgumentException" M1))))
set_option maxRecDepth 20000 in
set_option maxHeartbeats 4000000 in
theorem t_X2_laneOf {z : Sh9} {N : Nv9} {X : Cx9} {out : Out9 × Mem9} (C : OK9 z N X out 3 (co9 out.1) cX2_laneOf RX2 7 1 []) (a0 : Nat) (a1 : Int32) (a2 : Int32) (M : Mem9) : J9 z N X out 3 0 [(0, .ref a0), (1, .int a1), (2, .int a2)] [] M (0, 0) (f_X2_laneOf z a0 a1 a2 M) := by
  refine j_aload_n (pc := 0) C dX2_laneOf_0 rfl ?_
  refine j_iload_n (pc := 1) C dX2_laneOf_1 rfl ?_
  refine j_callVv (pc := 2) C rfl dX2_laneOf_2 lv_X2_138 rfl (Nat.le_of_ble_eq_true rfl) (Nat.le_of_ble_eq_true rfl) (by decide) (Or.inl rfl) ⟨Nat.le_refl _, Nat.le_refl _⟩ (fun l hl o ho => sp_X2_checkLane hl ho) (fun M1 => ?_)
  refine j_iload_n (pc := 5) C dX2_laneOf_5 rfl ?_
  refine j_if_lt (pc := 6) C dX2_laneOf_6 (tgt := 15) (by decide) (fun hc8 => ?_) (fun hc8 => ?_)
  · exact j_throw (pc := 15) C rfl th_X2_laneOf_15 (by decide) (Nat.le_of_ble_eq_true rfl) rfl ⟨Nat.le_refl _, Nat.le_refl _⟩
  · refine j_iload_n (pc := 9) C dX2_laneOf_9 rfl ?_
    refine j_bipush (pc := 10) C dX2_laneOf_10 (v := 7) rfl ?_
    refine j_icmp_le (pc := 12) C dX2_laneOf_12 (tgt := 25) (by decide) (fun hc7 => ?_) (fun hc7 => ?_)
    · refine j_aload_n (pc := 25) C dX2_laneOf_25 rfl ?_
      refine j_getR (pc := 26) C dX2_laneOf_26 fl_X2_20 fr_X2_2 (fun v2 => ?_)
      refine j_getR (pc := 29) C dX2_laneOf_29 fl_X2_144 fr_X0_0 (fun v3 => ?_)
      refine j_iload_n (pc := 32) C dX2_laneOf_32 rfl ?_
      refine j_aaload (t := 14) (pc := 33) C dX2_laneOf_33 (by decide) (fun v4 => ?_)
      refine j_iload_n (pc := 34) C dX2_laneOf_34 rfl ?_
      refine j_callVi (pc := 35) C rfl dX2_laneOf_35 lv_X2_148 rfl (Nat.le_of_ble_eq_true rfl) (Nat.le_of_ble_eq_true rfl) (by decide) (Or.inl rfl) ⟨Nat.le_refl _, Nat.le_refl _⟩ (fun l hl o ho => sp_X1_number hl ho) (fun v6 M5 => ?_)
      exact j_ireturn (pc := 38) C rfl dX2_laneOf_38 ⟨Nat.zero_le _, Nat.zero_le _⟩
    · exact j_throw (pc := 15) C rfl th_X2_laneOf_15 (by decide) (Nat.le_of_ble_eq_true rfl) rfl ⟨Nat.le_refl _, Nat.le_refl _⟩
theorem sp_X2_laneOf {l : Launch} {z : Sh9} {N : Nv9} {a0 : Nat} {a1 : Int32} {a2 : Int32} {M : Mem9} {o : Out9 × Mem9} (hl : l.stackTraces = false) (h : f_X2_laneOf z a0 a1 a2 M = some o) : Sp9 l z N yX2_laneOf (Cond.code yX2_laneOf cX2_laneOf 3 (some .int)) 7 [.ref a0, .int a1, .int a2] M (co9 o.1) o :=
  sp9_of (rk := 1) (own := RX2) (by decide +kernel) rfl (Or.inr (Or.inl ⟨rfl, rfl⟩)) hl (Nat.le_of_ble_eq_true rfl) (fun X C => t_X2_laneOf C a0 a1 a2 M) h
def f_X2_set (z : Sh9) (a0 : Nat) (a1 : Int32) (a2 : Int32) (M : Mem9) : Re9 :=
  (bi9 (f_X2_isSetting z a1 a2 M) fun v2 M1 => (if v2 = 0 then (tx9 "java/lang/IllegalArgumentException" M1) else (bv9 (iv9 z a0 2 (f_X2_remember z a0  M1)) fun M3 => ((rf9 z a0 2 2).bind fun v4 => ((rf9 z v4 0 2).bind fun v5 => ((ld9 z M3 10 v5 a1).bind fun v6 => ((rf9 z a0 2 2).bind fun v7 => (bi9 (iv9 z v7 0 (f_X0_changeSetting z v7 a1 a2 M3)) fun v9 M8 => (ri9 v6 M8)))))))))
set_option maxRecDepth 20000 in
set_option maxHeartbeats 4000000 in
theorem t_X2_set {z : Sh9} {N : Nv9} {X : Cx9} {out : Out9 × Mem9} (C : OK9 z N X out 4 (co9 out.1) cX2_set RX2 6 1 []) (a0 : Nat) (a1 : Int32) (a2 : Int32) (M : Mem9) : J9 z N X out 4 0 [(0, .ref a0), (1, .int a1), (2, .int a2)] [] M (0, 0) (f_X2_set z a0 a1 a2 M) := by
  refine j_iload_n (pc := 0) C dX2_set_0 rfl ?_
  refine j_iload_n (pc := 1) C dX2_set_1 rfl ?_
  refine j_callSi (pc := 2) C rfl dX2_set_2 ls_X2_210 rfl (Nat.le_of_ble_eq_true rfl) (Nat.le_of_ble_eq_true rfl) (by decide) (Or.inl rfl) ⟨Nat.le_refl _, Nat.le_refl _⟩ (fun l hl o ho => sp_X2_isSetting hl ho) (fun v2 M1 => ?_)
  refine j_if_ne (pc := 5) C dX2_set_5 (tgt := 18) (by decide) (fun hc10 => ?_) (fun hc10 => ?_)
  · refine j_aload_n (pc := 18) C dX2_set_18 rfl ?_
    refine j_callVv (pc := 19) C rfl dX2_set_19 lv_X2_189 rfl (Nat.le_of_ble_eq_true rfl) (Nat.le_of_ble_eq_true rfl) (by decide) (Or.inl rfl) ⟨Nat.le_refl _, Nat.le_refl _⟩ (fun l hl o ho => sp_X2_remember hl ho) (fun M3 => ?_)
    refine j_aload_n (pc := 22) C dX2_set_22 rfl ?_
    refine j_getR (pc := 23) C dX2_set_23 fl_X2_20 fr_X2_2 (fun v4 => ?_)
    refine j_getR (pc := 26) C dX2_set_26 fl_X2_168 fr_X0_1 (fun v5 => ?_)
    refine j_iload_n (pc := 29) C dX2_set_29 rfl ?_
    refine j_iaload (pc := 30) C dX2_set_30 (fun v6 => ?_)
    refine j_istore_n (pc := 31) C dX2_set_31 (Nat.le_of_ble_eq_true rfl) (ls' := [(3, .int v6), (0, .ref a0), (1, .int a1), (2, .int a2)]) rfl ?_
    refine j_aload_n (pc := 32) C dX2_set_32 rfl ?_
    refine j_getR (pc := 33) C dX2_set_33 fl_X2_20 fr_X2_2 (fun v7 => ?_)
    refine j_iload_n (pc := 36) C dX2_set_36 rfl ?_
    refine j_iload_n (pc := 37) C dX2_set_37 rfl ?_
    refine j_callVi (pc := 38) C rfl dX2_set_38 lv_X2_215 rfl (Nat.le_of_ble_eq_true rfl) (Nat.le_of_ble_eq_true rfl) (by decide) (Or.inl rfl) ⟨Nat.le_refl _, Nat.le_refl _⟩ (fun l hl o ho => sp_X0_changeSetting hl ho) (fun v9 M8 => ?_)
    refine j_pop (pc := 41) C dX2_set_41 rfl ?_
    refine j_iload_n (pc := 42) C dX2_set_42 rfl ?_
    exact j_ireturn (pc := 43) C rfl dX2_set_43 ⟨Nat.zero_le _, Nat.zero_le _⟩
  · exact j_throw (pc := 8) C rfl th_X2_set_8 (by decide) (Nat.le_of_ble_eq_true rfl) rfl ⟨Nat.le_refl _, Nat.le_refl _⟩
theorem sp_X2_set {l : Launch} {z : Sh9} {N : Nv9} {a0 : Nat} {a1 : Int32} {a2 : Int32} {M : Mem9} {o : Out9 × Mem9} (hl : l.stackTraces = false) (h : f_X2_set z a0 a1 a2 M = some o) : Sp9 l z N yX2_set (Cond.code yX2_set cX2_set 4 (some .int)) 6 [.ref a0, .int a1, .int a2] M (co9 o.1) o :=
  sp9_of (rk := 1) (own := RX2) (by decide +kernel) rfl (Or.inr (Or.inl ⟨rfl, rfl⟩)) hl (Nat.le_of_ble_eq_true rfl) (fun X C => t_X2_set C a0 a1 a2 M) h
def f_X2_fixedLength (z : Sh9) (a0 : Int32) (M : Mem9) : Re9 :=
  (if a0 = (98 : Int32) then (ri9 (2 : Int32) M) else (if a0 = (108 : Int32) then (ri9 (1 : Int32) M) else (if a0 = (109 : Int32) then (ri9 (2 : Int32) M) else (if a0 = (116 : Int32) then (ri9 (3 : Int32) M) else (if a0 = (118 : Int32) then (ri9 (4 : Int32) M) else (ri9 (0 : Int32) M))))))
set_option maxRecDepth 20000 in
set_option maxHeartbeats 4000000 in
theorem t_X2_fixedLength {z : Sh9} {N : Nv9} {X : Cx9} {out : Out9 × Mem9} (C : OK9 z N X out 1 (co9 out.1) cX2_fixedLength RX2 0 1 []) (a0 : Int32) (M : Mem9) : J9 z N X out 1 0 [(0, .int a0)] [] M (0, 0) (f_X2_fixedLength z a0 M) := by
  refine j_iload_n (pc := 0) C dX2_fixedLength_0 rfl ?_
  refine j_ite (fun hc1 => ?_) (fun hc1 => ?_)
  · refine j_lookup (pc := 1) C dX2_fixedLength_1 (by decide +kernel) (off := 53) (by rw [hc1]; rfl) (tgt := 54) (by decide) ?_
    refine j_iconst (pc := 54) C dX2_fixedLength_54 (v := 2) rfl ?_
    exact j_ireturn (pc := 55) C rfl dX2_fixedLength_55 ⟨Nat.zero_le _, Nat.zero_le _⟩
  · refine j_ite (fun hc2 => ?_) (fun hc2 => ?_)
    · refine j_lookup (pc := 1) C dX2_fixedLength_1 (by decide +kernel) (off := 51) (by rw [hc2]; rfl) (tgt := 52) (by decide) ?_
      refine j_iconst (pc := 52) C dX2_fixedLength_52 (v := 1) rfl ?_
      exact j_ireturn (pc := 53) C rfl dX2_fixedLength_53 ⟨Nat.zero_le _, Nat.zero_le _⟩
    · refine j_ite (fun hc3 => ?_) (fun hc3 => ?_)
      · refine j_lookup (pc := 1) C dX2_fixedLength_1 (by decide +kernel) (off := 53) (by rw [hc3]; rfl) (tgt := 54) (by decide) ?_
        refine j_iconst (pc := 54) C dX2_fixedLength_54 (v := 2) rfl ?_
        exact j_ireturn (pc := 55) C rfl dX2_fixedLength_55 ⟨Nat.zero_le _, Nat.zero_le _⟩
      · refine j_ite (fun hc4 => ?_) (fun hc4 => ?_)
        · refine j_lookup (pc := 1) C dX2_fixedLength_1 (by decide +kernel) (off := 55) (by rw [hc4]; rfl) (tgt := 56) (by decide) ?_
          refine j_iconst (pc := 56) C dX2_fixedLength_56 (v := 3) rfl ?_
          exact j_ireturn (pc := 57) C rfl dX2_fixedLength_57 ⟨Nat.zero_le _, Nat.zero_le _⟩
        · refine j_ite (fun hc5 => ?_) (fun hc5 => ?_)
          · refine j_lookup (pc := 1) C dX2_fixedLength_1 (by decide +kernel) (off := 57) (by rw [hc5]; rfl) (tgt := 58) (by decide) ?_
            refine j_iconst (pc := 58) C dX2_fixedLength_58 (v := 4) rfl ?_
            exact j_ireturn (pc := 59) C rfl dX2_fixedLength_59 ⟨Nat.zero_le _, Nat.zero_le _⟩
          · refine j_lookup (pc := 1) C dX2_fixedLength_1 (by decide +kernel) (off := 59) ((lv_osw hc1 rfl).trans ((lv_osw hc2 rfl).trans ((lv_osw hc3 rfl).trans ((lv_osw hc4 rfl).trans ((lv_osw hc5 rfl).trans rfl))))) (tgt := 60) (by decide) ?_
            refine j_iconst (pc := 60) C dX2_fixedLength_60 (v := 0) rfl ?_
            exact j_ireturn (pc := 61) C rfl dX2_fixedLength_61 ⟨Nat.zero_le _, Nat.zero_le _⟩
theorem sp_X2_fixedLength {l : Launch} {z : Sh9} {N : Nv9} {a0 : Int32} {M : Mem9} {o : Out9 × Mem9} (hl : l.stackTraces = false) (h : f_X2_fixedLength z a0 M = some o) : Sp9 l z N yX2_fixedLength (Cond.code yX2_fixedLength cX2_fixedLength 1 (some .int)) 0 [.int a0] M (co9 o.1) o :=
  sp9_of (rk := 1) (own := RX2) (by decide +kernel) rfl (Or.inr (Or.inl ⟨rfl, rfl⟩)) hl (Nat.le_of_ble_eq_true rfl) (fun X C => t_X2_fixedLength C a0 M) h
def f_X2_signAt (z : Sh9) (a0 : Nat) (a1 : Int32) (M : Mem9) : Re9 :=
  (if a1 < 0 then (ri9 (-1 : Int32) M) else ((gf9 z M a0 2 1).bind fun v1 => (if v1 ≤ a1 then (ri9 (-1 : Int32) M) else (if a1 < (120 : Int32) then ((rf9 z a0 2 1).bind fun v2 => ((ld9 z M 12 v2 a1).bind fun v3 => (ri9 v3 M))) else (ri9 (-1 : Int32) M)))))
set_option maxRecDepth 20000 in
set_option maxHeartbeats 4000000 in
theorem t_X2_signAt {z : Sh9} {N : Nv9} {X : Cx9} {out : Out9 × Mem9} (C : OK9 z N X out 2 (co9 out.1) cX2_signAt RX2 0 1 []) (a0 : Nat) (a1 : Int32) (M : Mem9) : J9 z N X out 2 0 [(0, .ref a0), (1, .int a1)] [] M (0, 0) (f_X2_signAt z a0 a1 M) := by
  refine j_iload_n (pc := 0) C dX2_signAt_0 rfl ?_
  refine j_if_lt (pc := 1) C dX2_signAt_1 (tgt := 18) (by decide) (fun hc6 => ?_) (fun hc6 => ?_)
  · refine j_iconst (pc := 18) C dX2_signAt_18 (v := -1) rfl ?_
    exact j_ireturn (pc := 19) C rfl dX2_signAt_19 ⟨Nat.zero_le _, Nat.zero_le _⟩
  · refine j_iload_n (pc := 4) C dX2_signAt_4 rfl ?_
    refine j_aload_n (pc := 5) C dX2_signAt_5 rfl ?_
    refine j_getI (pc := 6) C dX2_signAt_6 fl_X2_13 fi_X2_1 (fun v1 => ?_)
    refine j_icmp_ge (pc := 9) C dX2_signAt_9 (tgt := 18) (by decide) (fun hc5 => ?_) (fun hc5 => ?_)
    · refine j_iconst (pc := 18) C dX2_signAt_18 (v := -1) rfl ?_
      exact j_ireturn (pc := 19) C rfl dX2_signAt_19 ⟨Nat.zero_le _, Nat.zero_le _⟩
    · refine j_iload_n (pc := 12) C dX2_signAt_12 rfl ?_
      refine j_bipush (pc := 13) C dX2_signAt_13 (v := 120) rfl ?_
      refine j_icmp_lt (pc := 15) C dX2_signAt_15 (tgt := 20) (by decide) (fun hc4 => ?_) (fun hc4 => ?_)
      · refine j_aload_n (pc := 20) C dX2_signAt_20 rfl ?_
        refine j_getR (pc := 21) C dX2_signAt_21 fl_X2_9 fr_X2_0 (fun v2 => ?_)
        refine j_iload_n (pc := 24) C dX2_signAt_24 rfl ?_
        refine j_caload (pc := 25) C dX2_signAt_25 (fun v3 => ?_)
        exact j_ireturn (pc := 26) C rfl dX2_signAt_26 ⟨Nat.zero_le _, Nat.zero_le _⟩
      · refine j_iconst (pc := 18) C dX2_signAt_18 (v := -1) rfl ?_
        exact j_ireturn (pc := 19) C rfl dX2_signAt_19 ⟨Nat.zero_le _, Nat.zero_le _⟩
theorem sp_X2_signAt {l : Launch} {z : Sh9} {N : Nv9} {a0 : Nat} {a1 : Int32} {M : Mem9} {o : Out9 × Mem9} (hl : l.stackTraces = false) (h : f_X2_signAt z a0 a1 M = some o) : Sp9 l z N yX2_signAt (Cond.code yX2_signAt cX2_signAt 2 (some .int)) 0 [.ref a0, .int a1] M (co9 o.1) o :=
  sp9_of (rk := 1) (own := RX2) (by decide +kernel) rfl (Or.inr (Or.inl ⟨rfl, rfl⟩)) hl (Nat.le_of_ble_eq_true rfl) (fun X C => t_X2_signAt C a0 a1 M) h
def f_X2_commandLength_b36 (z : Sh9)  (x0 : Nat) (x1 : Int32) (x2 : Int32) (M : Mem9) : Re9 :=
  (bi9 (iv9 z x0 2 (f_X2_signAt z x0 (x1 + x2) M)) fun v12 M11 => (if v12 = (102 : Int32) then (ri9 (x2 + (1 : Int32)) M11) else (ri9 x2 M11)))
set_option maxRecDepth 20000 in
set_option maxHeartbeats 4000000 in
theorem t_X2_commandLength_b36 {z : Sh9} {N : Nv9} {X : Cx9} {out : Out9 × Mem9} (C : OK9 z N X out 3 (co9 out.1) cX2_commandLength RX2 1 1 [])  (x0 : Nat) (x1 : Int32) (x2 : Int32) (M : Mem9) : J9 z N X out 3 36 [(0, .ref x0), (1, .int x1), (2, .int x2)] [] M (0, 0) (f_X2_commandLength_b36 z  x0 x1 x2 M) := by
  refine j_aload_n (pc := 36) C dX2_commandLength_36 rfl ?_
  refine j_iload_n (pc := 37) C dX2_commandLength_37 rfl ?_
  refine j_iload_n (pc := 38) C dX2_commandLength_38 rfl ?_
  refine j_iadd (pc := 39) C dX2_commandLength_39 ?_
  refine j_callVi (pc := 40) C rfl dX2_commandLength_40 lv_X2_56 rfl (Nat.le_of_ble_eq_true rfl) (Nat.le_of_ble_eq_true rfl) (by decide) (Or.inl rfl) ⟨Nat.le_refl _, Nat.le_refl _⟩ (fun l hl o ho => sp_X2_signAt hl ho) (fun v12 M11 => ?_)
  refine j_bipush (pc := 43) C dX2_commandLength_43 (v := 102) rfl ?_
  refine j_icmp_ne (pc := 45) C dX2_commandLength_45 (tgt := 51) (by decide) (fun hc13 => ?_) (fun hc13 => ?_)
  · refine j_iload_n (pc := 51) C dX2_commandLength_51 rfl ?_
    exact j_ireturn (pc := 52) C rfl dX2_commandLength_52 ⟨Nat.zero_le _, Nat.zero_le _⟩
  · refine j_iinc (pc := 48) C dX2_commandLength_48 rfl (v := (x2 + (1 : Int32))) rfl (Nat.le_of_ble_eq_true rfl) (ls' := [(2, .int (x2 + (1 : Int32))), (0, .ref x0), (1, .int x1)]) rfl ?_
    refine j_iload_n (pc := 51) C dX2_commandLength_51 rfl ?_
    exact j_ireturn (pc := 52) C rfl dX2_commandLength_52 ⟨Nat.zero_le _, Nat.zero_le _⟩
def f_X2_commandLength (z : Sh9) (a0 : Nat) (a1 : Int32) (M : Mem9) : Re9 :=
  (bi9 (iv9 z a0 2 (f_X2_signAt z a0 a1 M)) fun v2 M1 => (bi9 (f_X2_fixedLength z v2 M1) fun v4 M3 => (bi9 (iv9 z a0 2 (f_X2_signAt z a0 a1 M3)) fun v6 M5 => (if v6 = (118 : Int32) then (bi9 (iv9 z a0 2 (f_X2_signAt z a0 (a1 + v4) M5)) fun v8 M7 => (if v8 = (120 : Int32) then (f_X2_commandLength_b36 z  a0 a1 (v4 + (1 : Int32)) M7) else (f_X2_commandLength_b36 z  a0 a1 v4 M7))) else (ri9 v4 M5)))))
set_option maxRecDepth 20000 in
set_option maxHeartbeats 4000000 in
theorem t_X2_commandLength {z : Sh9} {N : Nv9} {X : Cx9} {out : Out9 × Mem9} (C : OK9 z N X out 3 (co9 out.1) cX2_commandLength RX2 1 1 []) (a0 : Nat) (a1 : Int32) (M : Mem9) : J9 z N X out 3 0 [(0, .ref a0), (1, .int a1)] [] M (0, 0) (f_X2_commandLength z a0 a1 M) := by
  refine j_aload_n (pc := 0) C dX2_commandLength_0 rfl ?_
  refine j_iload_n (pc := 1) C dX2_commandLength_1 rfl ?_
  refine j_callVi (pc := 2) C rfl dX2_commandLength_2 lv_X2_56 rfl (Nat.le_of_ble_eq_true rfl) (Nat.le_of_ble_eq_true rfl) (by decide) (Or.inl rfl) ⟨Nat.le_refl _, Nat.le_refl _⟩ (fun l hl o ho => sp_X2_signAt hl ho) (fun v2 M1 => ?_)
  refine j_callSi (pc := 5) C rfl dX2_commandLength_5 ls_X2_85 rfl (Nat.le_of_ble_eq_true rfl) (Nat.le_of_ble_eq_true rfl) (by decide) (Or.inl rfl) ⟨Nat.le_refl _, Nat.le_refl _⟩ (fun l hl o ho => sp_X2_fixedLength hl ho) (fun v4 M3 => ?_)
  refine j_istore_n (pc := 8) C dX2_commandLength_8 (Nat.le_of_ble_eq_true rfl) (ls' := [(2, .int v4), (0, .ref a0), (1, .int a1)]) rfl ?_
  refine j_aload_n (pc := 9) C dX2_commandLength_9 rfl ?_
  refine j_iload_n (pc := 10) C dX2_commandLength_10 rfl ?_
  refine j_callVi (pc := 11) C rfl dX2_commandLength_11 lv_X2_56 rfl (Nat.le_of_ble_eq_true rfl) (Nat.le_of_ble_eq_true rfl) (by decide) (Or.inl rfl) ⟨Nat.le_refl _, Nat.le_refl _⟩ (fun l hl o ho => sp_X2_signAt hl ho) (fun v6 M5 => ?_)
  refine j_bipush (pc := 14) C dX2_commandLength_14 (v := 118) rfl ?_
  refine j_icmp_eq (pc := 16) C dX2_commandLength_16 (tgt := 21) (by decide) (fun hc10 => ?_) (fun hc10 => ?_)
  · refine j_aload_n (pc := 21) C dX2_commandLength_21 rfl ?_
    refine j_iload_n (pc := 22) C dX2_commandLength_22 rfl ?_
    refine j_iload_n (pc := 23) C dX2_commandLength_23 rfl ?_
    refine j_iadd (pc := 24) C dX2_commandLength_24 ?_
    refine j_callVi (pc := 25) C rfl dX2_commandLength_25 lv_X2_56 rfl (Nat.le_of_ble_eq_true rfl) (Nat.le_of_ble_eq_true rfl) (by decide) (Or.inl rfl) ⟨Nat.le_refl _, Nat.le_refl _⟩ (fun l hl o ho => sp_X2_signAt hl ho) (fun v8 M7 => ?_)
    refine j_bipush (pc := 28) C dX2_commandLength_28 (v := 120) rfl ?_
    refine j_icmp_ne (pc := 30) C dX2_commandLength_30 (tgt := 36) (by decide) (fun hc9 => ?_) (fun hc9 => ?_)
    · refine j_loc [1, 2, 0] rfl ?_
      exact t_X2_commandLength_b36 C  a0 a1 v4 M7
    · refine j_iinc (pc := 33) C dX2_commandLength_33 rfl (v := (v4 + (1 : Int32))) rfl (Nat.le_of_ble_eq_true rfl) (ls' := [(2, .int (v4 + (1 : Int32))), (0, .ref a0), (1, .int a1)]) rfl ?_
      refine j_loc [1, 2, 0] rfl ?_
      exact t_X2_commandLength_b36 C  a0 a1 (v4 + (1 : Int32)) M7
  · refine j_iload_n (pc := 19) C dX2_commandLength_19 rfl ?_
    exact j_ireturn (pc := 20) C rfl dX2_commandLength_20 ⟨Nat.zero_le _, Nat.zero_le _⟩
theorem sp_X2_commandLength {l : Launch} {z : Sh9} {N : Nv9} {a0 : Nat} {a1 : Int32} {M : Mem9} {o : Out9 × Mem9} (hl : l.stackTraces = false) (h : f_X2_commandLength z a0 a1 M = some o) : Sp9 l z N yX2_commandLength (Cond.code yX2_commandLength cX2_commandLength 3 (some .int)) 1 [.ref a0, .int a1] M (co9 o.1) o :=
  sp9_of (rk := 1) (own := RX2) (by decide +kernel) rfl (Or.inr (Or.inl ⟨rfl, rfl⟩)) hl (Nat.le_of_ble_eq_true rfl) (fun X C => t_X2_commandLength C a0 a1 M) h
def f_X2_digitAt (z : Sh9) (a0 : Nat) (a1 : Int32) (M : Mem9) : Re9 :=
  (bi9 (iv9 z a0 2 (f_X2_signAt z a0 a1 M)) fun v2 M1 => (ri9 (v2 - (48 : Int32)) M1))
set_option maxRecDepth 20000 in
set_option maxHeartbeats 4000000 in
theorem t_X2_digitAt {z : Sh9} {N : Nv9} {X : Cx9} {out : Out9 × Mem9} (C : OK9 z N X out 2 (co9 out.1) cX2_digitAt RX2 1 1 []) (a0 : Nat) (a1 : Int32) (M : Mem9) : J9 z N X out 2 0 [(0, .ref a0), (1, .int a1)] [] M (0, 0) (f_X2_digitAt z a0 a1 M) := by
  refine j_aload_n (pc := 0) C dX2_digitAt_0 rfl ?_
  refine j_iload_n (pc := 1) C dX2_digitAt_1 rfl ?_
  refine j_callVi (pc := 2) C rfl dX2_digitAt_2 lv_X2_56 rfl (Nat.le_of_ble_eq_true rfl) (Nat.le_of_ble_eq_true rfl) (by decide) (Or.inl rfl) ⟨Nat.le_refl _, Nat.le_refl _⟩ (fun l hl o ho => sp_X2_signAt hl ho) (fun v2 M1 => ?_)
  refine j_bipush (pc := 5) C dX2_digitAt_5 (v := 48) rfl ?_
  refine j_isub (pc := 7) C dX2_digitAt_7 ?_
  exact j_ireturn (pc := 8) C rfl dX2_digitAt_8 ⟨Nat.zero_le _, Nat.zero_le _⟩
theorem sp_X2_digitAt {l : Launch} {z : Sh9} {N : Nv9} {a0 : Nat} {a1 : Int32} {M : Mem9} {o : Out9 × Mem9} (hl : l.stackTraces = false) (h : f_X2_digitAt z a0 a1 M = some o) : Sp9 l z N yX2_digitAt (Cond.code yX2_digitAt cX2_digitAt 2 (some .int)) 1 [.ref a0, .int a1] M (co9 o.1) o :=
  sp9_of (rk := 1) (own := RX2) (by decide +kernel) rfl (Or.inr (Or.inl ⟨rfl, rfl⟩)) hl (Nat.le_of_ble_eq_true rfl) (fun X C => t_X2_digitAt C a0 a1 M) h
def f_X2_twoDigitsAt (z : Sh9) (a0 : Nat) (a1 : Int32) (M : Mem9) : Re9 :=
  (bi9 (iv9 z a0 2 (f_X2_digitAt z a0 a1 M)) fun v2 M1 => (bi9 (iv9 z a0 2 (f_X2_digitAt z a0 (a1 + (1 : Int32)) M1)) fun v4 M3 => (ri9 (((10 : Int32) * v2) + v4) M3)))
set_option maxRecDepth 20000 in
set_option maxHeartbeats 4000000 in
theorem t_X2_twoDigitsAt {z : Sh9} {N : Nv9} {X : Cx9} {out : Out9 × Mem9} (C : OK9 z N X out 2 (co9 out.1) cX2_twoDigitsAt RX2 2 1 []) (a0 : Nat) (a1 : Int32) (M : Mem9) : J9 z N X out 2 0 [(0, .ref a0), (1, .int a1)] [] M (0, 0) (f_X2_twoDigitsAt z a0 a1 M) := by
  refine j_bipush (pc := 0) C dX2_twoDigitsAt_0 (v := 10) rfl ?_
  refine j_aload_n (pc := 2) C dX2_twoDigitsAt_2 rfl ?_
  refine j_iload_n (pc := 3) C dX2_twoDigitsAt_3 rfl ?_
  refine j_callVi (pc := 4) C rfl dX2_twoDigitsAt_4 lv_X2_82 rfl (Nat.le_of_ble_eq_true rfl) (Nat.le_of_ble_eq_true rfl) (by decide) (Or.inl rfl) ⟨Nat.le_refl _, Nat.le_refl _⟩ (fun l hl o ho => sp_X2_digitAt hl ho) (fun v2 M1 => ?_)
  refine j_imul (pc := 7) C dX2_twoDigitsAt_7 ?_
  refine j_aload_n (pc := 8) C dX2_twoDigitsAt_8 rfl ?_
  refine j_iload_n (pc := 9) C dX2_twoDigitsAt_9 rfl ?_
  refine j_iconst (pc := 10) C dX2_twoDigitsAt_10 (v := 1) rfl ?_
  refine j_iadd (pc := 11) C dX2_twoDigitsAt_11 ?_
  refine j_callVi (pc := 12) C rfl dX2_twoDigitsAt_12 lv_X2_82 rfl (Nat.le_of_ble_eq_true rfl) (Nat.le_of_ble_eq_true rfl) (by decide) (Or.inl rfl) ⟨Nat.le_refl _, Nat.le_refl _⟩ (fun l hl o ho => sp_X2_digitAt hl ho) (fun v4 M3 => ?_)
  refine j_iadd (pc := 15) C dX2_twoDigitsAt_15 ?_
  exact j_ireturn (pc := 16) C rfl dX2_twoDigitsAt_16 ⟨Nat.zero_le _, Nat.zero_le _⟩
theorem sp_X2_twoDigitsAt {l : Launch} {z : Sh9} {N : Nv9} {a0 : Nat} {a1 : Int32} {M : Mem9} {o : Out9 × Mem9} (hl : l.stackTraces = false) (h : f_X2_twoDigitsAt z a0 a1 M = some o) : Sp9 l z N yX2_twoDigitsAt (Cond.code yX2_twoDigitsAt cX2_twoDigitsAt 2 (some .int)) 2 [.ref a0, .int a1] M (co9 o.1) o :=
  sp9_of (rk := 1) (own := RX2) (by decide +kernel) rfl (Or.inr (Or.inl ⟨rfl, rfl⟩)) hl (Nat.le_of_ble_eq_true rfl) (fun X C => t_X2_twoDigitsAt C a0 a1 M) h
def f_X2_doArrival_b45 (z : Sh9)  (x0 : Nat) (x1 : Int32) (x2 : Int32) (s0 : Int32) (M : Mem9) : Re9 :=
  ((rf9 z x0 2 2).bind fun v8 => (bi9 (iv9 z x0 2 (f_X2_digitAt z x0 (x1 + (1 : Int32)) M)) fun v10 M9 => (bi9 (iv9 z x0 2 (f_X2_twoDigitsAt z x0 (x1 + (2 : Int32)) M9)) fun v12 M11 => (bi9 (iv9 z v8 0 (f_X0_addVehicle z v8 v10 v12 x2 s0 M11)) fun v14 M13 => (rz9 v14 M13)))))
set_option maxRecDepth 20000 in
set_option maxHeartbeats 4000000 in
theorem t_X2_doArrival_b45 {z : Sh9} {N : Nv9} {X : Cx9} {out : Out9 × Mem9} (C : OK9 z N X out 4 (co9 out.1) cX2_doArrival RX2 3 2 [])  (x0 : Nat) (x1 : Int32) (x2 : Int32) (s0 : Int32) (M : Mem9) : J9 z N X out 4 45 [(0, .ref x0), (1, .int x1), (2, .int x2)] [.int s0] M (0, 0) (f_X2_doArrival_b45 z  x0 x1 x2 s0 M) := by
  refine j_istore_n (pc := 45) C dX2_doArrival_45 (Nat.le_of_ble_eq_true rfl) (ls' := [(3, .int s0), (0, .ref x0), (1, .int x1), (2, .int x2)]) rfl ?_
  refine j_aload_n (pc := 46) C dX2_doArrival_46 rfl ?_
  refine j_getR (pc := 47) C dX2_doArrival_47 fl_X2_20 fr_X2_2 (fun v8 => ?_)
  refine j_aload_n (pc := 50) C dX2_doArrival_50 rfl ?_
  refine j_iload_n (pc := 51) C dX2_doArrival_51 rfl ?_
  refine j_iconst (pc := 52) C dX2_doArrival_52 (v := 1) rfl ?_
  refine j_iadd (pc := 53) C dX2_doArrival_53 ?_
  refine j_callVi (pc := 54) C rfl dX2_doArrival_54 lv_X2_82 rfl (Nat.le_of_ble_eq_true rfl) (Nat.le_of_ble_eq_true rfl) (by decide) (Or.inl rfl) ⟨Nat.le_refl _, Nat.le_refl _⟩ (fun l hl o ho => sp_X2_digitAt hl ho) (fun v10 M9 => ?_)
  refine j_aload_n (pc := 57) C dX2_doArrival_57 rfl ?_
  refine j_iload_n (pc := 58) C dX2_doArrival_58 rfl ?_
  refine j_iconst (pc := 59) C dX2_doArrival_59 (v := 2) rfl ?_
  refine j_iadd (pc := 60) C dX2_doArrival_60 ?_
  refine j_callVi (pc := 61) C rfl dX2_doArrival_61 lv_X2_117 rfl (Nat.le_of_ble_eq_true rfl) (Nat.le_of_ble_eq_true rfl) (by decide) (Or.inl rfl) ⟨Nat.le_refl _, Nat.le_refl _⟩ (fun l hl o ho => sp_X2_twoDigitsAt hl ho) (fun v12 M11 => ?_)
  refine j_iload_n (pc := 64) C dX2_doArrival_64 rfl ?_
  refine j_iload_n (pc := 65) C dX2_doArrival_65 rfl ?_
  refine j_callVi (pc := 66) C rfl dX2_doArrival_66 lv_X2_123 rfl (Nat.le_of_ble_eq_true rfl) (Nat.le_of_ble_eq_true rfl) (by decide) (Or.inl rfl) ⟨Nat.le_refl _, Nat.le_refl _⟩ (fun l hl o ho => sp_X0_addVehicle hl ho) (fun v14 M13 => ?_)
  exact j_zreturn (pc := 69) C rfl dX2_doArrival_69 ⟨Nat.zero_le _, Nat.zero_le _⟩
def f_X2_doArrival_b32 (z : Sh9)  (x0 : Nat) (x1 : Int32) (x2 : Int32) (s0 : Int32) (s1 : Nat) (M : Mem9) : Re9 :=
  (bi9 (iv9 z s1 2 (f_X2_signAt z s1 s0 M)) fun v6 M5 => (if v6 = (102 : Int32) then (f_X2_doArrival_b45 z  x0 x1 x2 (1 : Int32) M5) else (f_X2_doArrival_b45 z  x0 x1 x2 (0 : Int32) M5)))
set_option maxRecDepth 20000 in
set_option maxHeartbeats 4000000 in
theorem t_X2_doArrival_b32 {z : Sh9} {N : Nv9} {X : Cx9} {out : Out9 × Mem9} (C : OK9 z N X out 4 (co9 out.1) cX2_doArrival RX2 3 2 [])  (x0 : Nat) (x1 : Int32) (x2 : Int32) (s0 : Int32) (s1 : Nat) (M : Mem9) : J9 z N X out 4 32 [(0, .ref x0), (1, .int x1), (2, .int x2)] [.int s0, .ref s1] M (0, 0) (f_X2_doArrival_b32 z  x0 x1 x2 s0 s1 M) := by
  refine j_callVi (pc := 32) C rfl dX2_doArrival_32 lv_X2_56 rfl (Nat.le_of_ble_eq_true rfl) (Nat.le_of_ble_eq_true rfl) (by decide) (Or.inl rfl) ⟨Nat.le_refl _, Nat.le_refl _⟩ (fun l hl o ho => sp_X2_signAt hl ho) (fun v6 M5 => ?_)
  refine j_bipush (pc := 35) C dX2_doArrival_35 (v := 102) rfl ?_
  refine j_icmp_ne (pc := 37) C dX2_doArrival_37 (tgt := 44) (by decide) (fun hc7 => ?_) (fun hc7 => ?_)
  · refine j_iconst (pc := 44) C dX2_doArrival_44 (v := 0) rfl ?_
    exact t_X2_doArrival_b45 C  x0 x1 x2 (0 : Int32) M5
  · refine j_iconst (pc := 40) C dX2_doArrival_40 (v := 1) rfl ?_
    refine j_goto (pc := 41) C dX2_doArrival_41 (tgt := 45) (by decide) ?_
    exact t_X2_doArrival_b45 C  x0 x1 x2 (1 : Int32) M5
def f_X2_doArrival_b17 (z : Sh9)  (x0 : Nat) (x1 : Int32) (s0 : Int32) (M : Mem9) : Re9 :=
  (if s0 = 0 then (f_X2_doArrival_b32 z  x0 x1 s0 (x1 + (4 : Int32)) x0 M) else (f_X2_doArrival_b32 z  x0 x1 s0 (x1 + (5 : Int32)) x0 M))
set_option maxRecDepth 20000 in
set_option maxHeartbeats 4000000 in
theorem t_X2_doArrival_b17 {z : Sh9} {N : Nv9} {X : Cx9} {out : Out9 × Mem9} (C : OK9 z N X out 4 (co9 out.1) cX2_doArrival RX2 3 2 [])  (x0 : Nat) (x1 : Int32) (s0 : Int32) (M : Mem9) : J9 z N X out 4 17 [(0, .ref x0), (1, .int x1)] [.int s0] M (0, 0) (f_X2_doArrival_b17 z  x0 x1 s0 M) := by
  refine j_istore_n (pc := 17) C dX2_doArrival_17 (Nat.le_of_ble_eq_true rfl) (ls' := [(2, .int s0), (0, .ref x0), (1, .int x1)]) rfl ?_
  refine j_aload_n (pc := 18) C dX2_doArrival_18 rfl ?_
  refine j_iload_n (pc := 19) C dX2_doArrival_19 rfl ?_
  refine j_if_eq (pc := 20) C dX2_doArrival_20 (tgt := 29) (by decide) (fun hc4 => ?_) (fun hc4 => ?_)
  · refine j_iload_n (pc := 29) C dX2_doArrival_29 rfl ?_
    refine j_iconst (pc := 30) C dX2_doArrival_30 (v := 4) rfl ?_
    refine j_iadd (pc := 31) C dX2_doArrival_31 ?_
    refine j_loc [1, 2, 0] rfl ?_
    exact t_X2_doArrival_b32 C  x0 x1 s0 (x1 + (4 : Int32)) x0 M
  · refine j_iload_n (pc := 23) C dX2_doArrival_23 rfl ?_
    refine j_iconst (pc := 24) C dX2_doArrival_24 (v := 5) rfl ?_
    refine j_iadd (pc := 25) C dX2_doArrival_25 ?_
    refine j_goto (pc := 26) C dX2_doArrival_26 (tgt := 32) (by decide) ?_
    refine j_loc [1, 2, 0] rfl ?_
    exact t_X2_doArrival_b32 C  x0 x1 s0 (x1 + (5 : Int32)) x0 M
def f_X2_doArrival (z : Sh9) (a0 : Nat) (a1 : Int32) (M : Mem9) : Re9 :=
  (bi9 (iv9 z a0 2 (f_X2_signAt z a0 (a1 + (4 : Int32)) M)) fun v2 M1 => (if v2 = (120 : Int32) then (f_X2_doArrival_b17 z  a0 a1 (1 : Int32) M1) else (f_X2_doArrival_b17 z  a0 a1 (0 : Int32) M1)))
set_option maxRecDepth 20000 in
set_option maxHeartbeats 4000000 in
theorem t_X2_doArrival {z : Sh9} {N : Nv9} {X : Cx9} {out : Out9 × Mem9} (C : OK9 z N X out 4 (co9 out.1) cX2_doArrival RX2 3 2 []) (a0 : Nat) (a1 : Int32) (M : Mem9) : J9 z N X out 4 0 [(0, .ref a0), (1, .int a1)] [] M (0, 0) (f_X2_doArrival z a0 a1 M) := by
  refine j_aload_n (pc := 0) C dX2_doArrival_0 rfl ?_
  refine j_iload_n (pc := 1) C dX2_doArrival_1 rfl ?_
  refine j_iconst (pc := 2) C dX2_doArrival_2 (v := 4) rfl ?_
  refine j_iadd (pc := 3) C dX2_doArrival_3 ?_
  refine j_callVi (pc := 4) C rfl dX2_doArrival_4 lv_X2_56 rfl (Nat.le_of_ble_eq_true rfl) (Nat.le_of_ble_eq_true rfl) (by decide) (Or.inl rfl) ⟨Nat.le_refl _, Nat.le_refl _⟩ (fun l hl o ho => sp_X2_signAt hl ho) (fun v2 M1 => ?_)
  refine j_bipush (pc := 7) C dX2_doArrival_7 (v := 120) rfl ?_
  refine j_icmp_ne (pc := 9) C dX2_doArrival_9 (tgt := 16) (by decide) (fun hc3 => ?_) (fun hc3 => ?_)
  · refine j_iconst (pc := 16) C dX2_doArrival_16 (v := 0) rfl ?_
    exact t_X2_doArrival_b17 C  a0 a1 (0 : Int32) M1
  · refine j_iconst (pc := 12) C dX2_doArrival_12 (v := 1) rfl ?_
    refine j_goto (pc := 13) C dX2_doArrival_13 (tgt := 17) (by decide) ?_
    exact t_X2_doArrival_b17 C  a0 a1 (1 : Int32) M1
theorem sp_X2_doArrival {l : Launch} {z : Sh9} {N : Nv9} {a0 : Nat} {a1 : Int32} {M : Mem9} {o : Out9 × Mem9} (hl : l.stackTraces = false) (h : f_X2_doArrival z a0 a1 M = some o) : Sp9 l z N yX2_doArrival (Cond.code yX2_doArrival cX2_doArrival 4 (some .boolean)) 3 [.ref a0, .int a1] M (co9 o.1) o :=
  sp9_of (rk := 2) (own := RX2) (by decide +kernel) rfl (Or.inr (Or.inr (Or.inl ⟨rfl, rfl⟩))) hl (Nat.le_of_ble_eq_true rfl) (fun X C => t_X2_doArrival C a0 a1 M) h
def f_X2_doCommand (z : Sh9) (a0 : Nat) (a1 : Int32) (M : Mem9) : Re9 :=
  (bi9 (iv9 z a0 2 (f_X2_signAt z a0 a1 M)) fun v2 M1 => (if v2 = (98 : Int32) then ((rf9 z a0 2 2).bind fun v3 => (bi9 (iv9 z a0 2 (f_X2_digitAt z a0 (a1 + (1 : Int32)) M1)) fun v5 M4 => (bi9 (iv9 z v3 0 (f_X0_changeLoop z v3 v5 (1 : Int32) M4)) fun v7 M6 => (rz9 v7 M6)))) else (if v2 = (108 : Int32) then ((rf9 z a0 2 2).bind fun v9 => (bi9 (iv9 z v9 0 (f_X0_addLane z v9  M1)) fun v11 M10 => (rz9 v11 M10))) else (if v2 = (109 : Int32) then ((rf9 z a0 2 2).bind fun v13 => (bi9 (iv9 z a0 2 (f_X2_digitAt z a0 (a1 + (1 : Int32)) M1)) fun v15 M14 => (bi9 (iv9 z v13 0 (f_X0_mendArm z v13 v15 M14)) fun v17 M16 => (rz9 v17 M16)))) else (if v2 = (116 : Int32) then ((rf9 z a0 2 2).bind fun v19 => (bi9 (iv9 z a0 2 (f_X2_twoDigitsAt z a0 (a1 + (1 : Int32)) M1)) fun v21 M20 => (bi9 (iv9 z v19 0 (f_X0_letTicksGo z v19 v21 M20)) fun v23 M22 => (rz9 v23 M22)))) else (if v2 = (118 : Int32) then (bi9 (iv9 z a0 2 (f_X2_doArrival z a0 a1 M1)) fun v26 M25 => (rz9 v26 M25)) else (rz9 (0 : Int32) M1)))))))
set_option maxRecDepth 20000 in
set_option maxHeartbeats 4000000 in
theorem t_X2_doCommand {z : Sh9} {N : Nv9} {X : Cx9} {out : Out9 × Mem9} (C : OK9 z N X out 2 (co9 out.1) cX2_doCommand RX2 5 2 []) (a0 : Nat) (a1 : Int32) (M : Mem9) : J9 z N X out 2 0 [(0, .ref a0), (1, .int a1)] [] M (0, 0) (f_X2_doCommand z a0 a1 M) := by
  refine j_aload_n (pc := 0) C dX2_doCommand_0 rfl ?_
  refine j_iload_n (pc := 1) C dX2_doCommand_1 rfl ?_
  refine j_callVi (pc := 2) C rfl dX2_doCommand_2 lv_X2_56 rfl (Nat.le_of_ble_eq_true rfl) (Nat.le_of_ble_eq_true rfl) (by decide) (Or.inl rfl) ⟨Nat.le_refl _, Nat.le_refl _⟩ (fun l hl o ho => sp_X2_signAt hl ho) (fun v2 M1 => ?_)
  refine j_ite (fun hc8 => ?_) (fun hc8 => ?_)
  · refine j_lookup (pc := 5) C dX2_doCommand_5 (by decide +kernel) (off := 65) (by rw [hc8]; rfl) (tgt := 70) (by decide) ?_
    refine j_aload_n (pc := 70) C dX2_doCommand_70 rfl ?_
    refine j_getR (pc := 71) C dX2_doCommand_71 fl_X2_20 fr_X2_2 (fun v3 => ?_)
    refine j_aload_n (pc := 74) C dX2_doCommand_74 rfl ?_
    refine j_iload_n (pc := 75) C dX2_doCommand_75 rfl ?_
    refine j_iconst (pc := 76) C dX2_doCommand_76 (v := 1) rfl ?_
    refine j_iadd (pc := 77) C dX2_doCommand_77 ?_
    refine j_callVi (pc := 78) C rfl dX2_doCommand_78 lv_X2_82 rfl (Nat.le_of_ble_eq_true rfl) (Nat.le_of_ble_eq_true rfl) (by decide) (Or.inl rfl) ⟨Nat.le_refl _, Nat.le_refl _⟩ (fun l hl o ho => sp_X2_digitAt hl ho) (fun v5 M4 => ?_)
    refine j_iconst (pc := 81) C dX2_doCommand_81 (v := 1) rfl ?_
    refine j_callVi (pc := 82) C rfl dX2_doCommand_82 lv_X2_110 rfl (Nat.le_of_ble_eq_true rfl) (Nat.le_of_ble_eq_true rfl) (by decide) (Or.inl rfl) ⟨Nat.le_refl _, Nat.le_refl _⟩ (fun l hl o ho => sp_X0_changeLoop hl ho) (fun v7 M6 => ?_)
    exact j_zreturn (pc := 85) C rfl dX2_doCommand_85 ⟨Nat.zero_le _, Nat.zero_le _⟩
  · refine j_ite (fun hc12 => ?_) (fun hc12 => ?_)
    · refine j_lookup (pc := 5) C dX2_doCommand_5 (by decide +kernel) (off := 51) (by rw [hc12]; rfl) (tgt := 56) (by decide) ?_
      refine j_aload_n (pc := 56) C dX2_doCommand_56 rfl ?_
      refine j_getR (pc := 57) C dX2_doCommand_57 fl_X2_20 fr_X2_2 (fun v9 => ?_)
      refine j_callVi (pc := 60) C rfl dX2_doCommand_60 lv_X2_103 rfl (Nat.le_of_ble_eq_true rfl) (Nat.le_of_ble_eq_true rfl) (by decide) (Or.inl rfl) ⟨Nat.le_refl _, Nat.le_refl _⟩ (fun l hl o ho => sp_X0_addLane hl ho) (fun v11 M10 => ?_)
      exact j_zreturn (pc := 63) C rfl dX2_doCommand_63 ⟨Nat.zero_le _, Nat.zero_le _⟩
    · refine j_ite (fun hc18 => ?_) (fun hc18 => ?_)
      · refine j_lookup (pc := 5) C dX2_doCommand_5 (by decide +kernel) (off := 81) (by rw [hc18]; rfl) (tgt := 86) (by decide) ?_
        refine j_aload_n (pc := 86) C dX2_doCommand_86 rfl ?_
        refine j_getR (pc := 87) C dX2_doCommand_87 fl_X2_20 fr_X2_2 (fun v13 => ?_)
        refine j_aload_n (pc := 90) C dX2_doCommand_90 rfl ?_
        refine j_iload_n (pc := 91) C dX2_doCommand_91 rfl ?_
        refine j_iconst (pc := 92) C dX2_doCommand_92 (v := 1) rfl ?_
        refine j_iadd (pc := 93) C dX2_doCommand_93 ?_
        refine j_callVi (pc := 94) C rfl dX2_doCommand_94 lv_X2_82 rfl (Nat.le_of_ble_eq_true rfl) (Nat.le_of_ble_eq_true rfl) (by decide) (Or.inl rfl) ⟨Nat.le_refl _, Nat.le_refl _⟩ (fun l hl o ho => sp_X2_digitAt hl ho) (fun v15 M14 => ?_)
        refine j_callVi (pc := 97) C rfl dX2_doCommand_97 lv_X2_114 rfl (Nat.le_of_ble_eq_true rfl) (Nat.le_of_ble_eq_true rfl) (by decide) (Or.inl rfl) ⟨Nat.le_refl _, Nat.le_refl _⟩ (fun l hl o ho => sp_X0_mendArm hl ho) (fun v17 M16 => ?_)
        exact j_zreturn (pc := 100) C rfl dX2_doCommand_100 ⟨Nat.zero_le _, Nat.zero_le _⟩
      · refine j_ite (fun hc24 => ?_) (fun hc24 => ?_)
        · refine j_lookup (pc := 5) C dX2_doCommand_5 (by decide +kernel) (off := 96) (by rw [hc24]; rfl) (tgt := 101) (by decide) ?_
          refine j_aload_n (pc := 101) C dX2_doCommand_101 rfl ?_
          refine j_getR (pc := 102) C dX2_doCommand_102 fl_X2_20 fr_X2_2 (fun v19 => ?_)
          refine j_aload_n (pc := 105) C dX2_doCommand_105 rfl ?_
          refine j_iload_n (pc := 106) C dX2_doCommand_106 rfl ?_
          refine j_iconst (pc := 107) C dX2_doCommand_107 (v := 1) rfl ?_
          refine j_iadd (pc := 108) C dX2_doCommand_108 ?_
          refine j_callVi (pc := 109) C rfl dX2_doCommand_109 lv_X2_117 rfl (Nat.le_of_ble_eq_true rfl) (Nat.le_of_ble_eq_true rfl) (by decide) (Or.inl rfl) ⟨Nat.le_refl _, Nat.le_refl _⟩ (fun l hl o ho => sp_X2_twoDigitsAt hl ho) (fun v21 M20 => ?_)
          refine j_callVi (pc := 112) C rfl dX2_doCommand_112 lv_X2_120 rfl (Nat.le_of_ble_eq_true rfl) (Nat.le_of_ble_eq_true rfl) (by decide) (Or.inl rfl) ⟨Nat.le_refl _, Nat.le_refl _⟩ (fun l hl o ho => sp_X0_letTicksGo hl ho) (fun v23 M22 => ?_)
          exact j_zreturn (pc := 115) C rfl dX2_doCommand_115 ⟨Nat.zero_le _, Nat.zero_le _⟩
        · refine j_ite (fun hc27 => ?_) (fun hc27 => ?_)
          · refine j_lookup (pc := 5) C dX2_doCommand_5 (by decide +kernel) (off := 59) (by rw [hc27]; rfl) (tgt := 64) (by decide) ?_
            refine j_aload_n (pc := 64) C dX2_doCommand_64 rfl ?_
            refine j_iload_n (pc := 65) C dX2_doCommand_65 rfl ?_
            refine j_callVi (pc := 66) C rfl dX2_doCommand_66 lv_X2_107 rfl (Nat.le_of_ble_eq_true rfl) (Nat.le_of_ble_eq_true rfl) (by decide) (Or.inl rfl) ⟨Nat.le_refl _, Nat.le_refl _⟩ (fun l hl o ho => sp_X2_doArrival hl ho) (fun v26 M25 => ?_)
            exact j_zreturn (pc := 69) C rfl dX2_doCommand_69 ⟨Nat.zero_le _, Nat.zero_le _⟩
          · refine j_lookup (pc := 5) C dX2_doCommand_5 (by decide +kernel) (off := 111) ((lv_osw hc8 rfl).trans ((lv_osw hc12 rfl).trans ((lv_osw hc18 rfl).trans ((lv_osw hc24 rfl).trans ((lv_osw hc27 rfl).trans rfl))))) (tgt := 116) (by decide) ?_
            refine j_iconst (pc := 116) C dX2_doCommand_116 (v := 0) rfl ?_
            exact j_zreturn (pc := 117) C rfl dX2_doCommand_117 ⟨Nat.zero_le _, Nat.zero_le _⟩
theorem sp_X2_doCommand {l : Launch} {z : Sh9} {N : Nv9} {a0 : Nat} {a1 : Int32} {M : Mem9} {o : Out9 × Mem9} (hl : l.stackTraces = false) (h : f_X2_doCommand z a0 a1 M = some o) : Sp9 l z N yX2_doCommand (Cond.code yX2_doCommand cX2_doCommand 2 (some .boolean)) 5 [.ref a0, .int a1] M (co9 o.1) o :=
  sp9_of (rk := 2) (own := RX2) (by decide +kernel) rfl (Or.inr (Or.inr (Or.inl ⟨rfl, rfl⟩))) hl (Nat.le_of_ble_eq_true rfl) (fun X C => t_X2_doCommand C a0 a1 M) h
def f_X2_isLastDigitOfLength (z : Sh9) (a0 : Int32) (a1 : Int32) (M : Mem9) : Re9 :=
  (if a0 = (48 : Int32) then (bi9 (f_X2_isBetween z a1 (50 : Int32) (57 : Int32) M) fun v4 M3 => (rz9 v4 M3)) else (bi9 (f_X2_isBetween z a1 (48 : Int32) (50 : Int32) M) fun v2 M1 => (rz9 v2 M1)))
set_option maxRecDepth 20000 in
set_option maxHeartbeats 4000000 in
theorem t_X2_isLastDigitOfLength {z : Sh9} {N : Nv9} {X : Cx9} {out : Out9 × Mem9} (C : OK9 z N X out 2 (co9 out.1) cX2_isLastDigitOfLength RX2 1 2 []) (a0 : Int32) (a1 : Int32) (M : Mem9) : J9 z N X out 2 0 [(0, .int a0), (1, .int a1)] [] M (0, 0) (f_X2_isLastDigitOfLength z a0 a1 M) := by
  refine j_iload_n (pc := 0) C dX2_isLastDigitOfLength_0 rfl ?_
  refine j_bipush (pc := 1) C dX2_isLastDigitOfLength_1 (v := 48) rfl ?_
  refine j_icmp_ne (pc := 3) C dX2_isLastDigitOfLength_3 (tgt := 17) (by decide) (fun hc5 => ?_) (fun hc5 => ?_)
  · refine j_iload_n (pc := 17) C dX2_isLastDigitOfLength_17 rfl ?_
    refine j_bipush (pc := 18) C dX2_isLastDigitOfLength_18 (v := 48) rfl ?_
    refine j_bipush (pc := 20) C dX2_isLastDigitOfLength_20 (v := 50) rfl ?_
    refine j_callSi (pc := 22) C rfl dX2_isLastDigitOfLength_22 ls_X2_92 rfl (Nat.le_of_ble_eq_true rfl) (Nat.le_of_ble_eq_true rfl) (by decide) (Or.inl rfl) ⟨Nat.le_refl _, Nat.le_refl _⟩ (fun l hl o ho => sp_X2_isBetween hl ho) (fun v2 M1 => ?_)
    exact j_zreturn (pc := 25) C rfl dX2_isLastDigitOfLength_25 ⟨Nat.zero_le _, Nat.zero_le _⟩
  · refine j_iload_n (pc := 6) C dX2_isLastDigitOfLength_6 rfl ?_
    refine j_bipush (pc := 7) C dX2_isLastDigitOfLength_7 (v := 50) rfl ?_
    refine j_bipush (pc := 9) C dX2_isLastDigitOfLength_9 (v := 57) rfl ?_
    refine j_callSi (pc := 11) C rfl dX2_isLastDigitOfLength_11 ls_X2_92 rfl (Nat.le_of_ble_eq_true rfl) (Nat.le_of_ble_eq_true rfl) (by decide) (Or.inl rfl) ⟨Nat.le_refl _, Nat.le_refl _⟩ (fun l hl o ho => sp_X2_isBetween hl ho) (fun v4 M3 => ?_)
    refine j_goto (pc := 14) C dX2_isLastDigitOfLength_14 (tgt := 25) (by decide) ?_
    exact j_zreturn (pc := 25) C rfl dX2_isLastDigitOfLength_25 ⟨Nat.zero_le _, Nat.zero_le _⟩
theorem sp_X2_isLastDigitOfLength {l : Launch} {z : Sh9} {N : Nv9} {a0 : Int32} {a1 : Int32} {M : Mem9} {o : Out9 × Mem9} (hl : l.stackTraces = false) (h : f_X2_isLastDigitOfLength z a0 a1 M = some o) : Sp9 l z N yX2_isLastDigitOfLength (Cond.code yX2_isLastDigitOfLength cX2_isLastDigitOfLength 2 (some .boolean)) 1 [.int a0, .int a1] M (co9 o.1) o :=
  sp9_of (rk := 2) (own := RX2) (by decide +kernel) rfl (Or.inr (Or.inr (Or.inl ⟨rfl, rfl⟩))) hl (Nat.le_of_ble_eq_true rfl) (fun X C => t_X2_isLastDigitOfLength C a0 a1 M) h
def f_X2_isLastDigitOfTicks_b31 (z : Sh9)  (s0 : Int32) (s1 : Int32) (s2 : Int32) (M : Mem9) : Re9 :=
  (bi9 (f_X2_isBetween z s2 s1 s0 M) fun v6 M5 => (rz9 v6 M5))
set_option maxRecDepth 20000 in
set_option maxHeartbeats 4000000 in
theorem t_X2_isLastDigitOfTicks_b31 {z : Sh9} {N : Nv9} {X : Cx9} {out : Out9 × Mem9} (C : OK9 z N X out 2 (co9 out.1) cX2_isLastDigitOfTicks RX2 1 2 [])  (s0 : Int32) (s1 : Int32) (s2 : Int32) (M : Mem9) : J9 z N X out 2 31 [] [.int s0, .int s1, .int s2] M (0, 0) (f_X2_isLastDigitOfTicks_b31 z  s0 s1 s2 M) := by
  refine j_callSi (pc := 31) C rfl dX2_isLastDigitOfTicks_31 ls_X2_92 rfl (Nat.le_of_ble_eq_true rfl) (Nat.le_of_ble_eq_true rfl) (by decide) (Or.inl rfl) ⟨Nat.le_refl _, Nat.le_refl _⟩ (fun l hl o ho => sp_X2_isBetween hl ho) (fun v6 M5 => ?_)
  exact j_zreturn (pc := 34) C rfl dX2_isLastDigitOfTicks_34 ⟨Nat.zero_le _, Nat.zero_le _⟩
def f_X2_isLastDigitOfTicks (z : Sh9) (a0 : Int32) (a1 : Int32) (M : Mem9) : Re9 :=
  (if a0 = (48 : Int32) then (bi9 (f_X2_isBetween z a1 (49 : Int32) (57 : Int32) M) fun v3 M2 => (rz9 v3 M2)) else (if a0 = (54 : Int32) then (f_X2_isLastDigitOfTicks_b31 z  (48 : Int32) (48 : Int32) a1 M) else (f_X2_isLastDigitOfTicks_b31 z  (57 : Int32) (48 : Int32) a1 M)))
set_option maxRecDepth 20000 in
set_option maxHeartbeats 4000000 in
theorem t_X2_isLastDigitOfTicks {z : Sh9} {N : Nv9} {X : Cx9} {out : Out9 × Mem9} (C : OK9 z N X out 2 (co9 out.1) cX2_isLastDigitOfTicks RX2 1 2 []) (a0 : Int32) (a1 : Int32) (M : Mem9) : J9 z N X out 2 0 [(0, .int a0), (1, .int a1)] [] M (0, 0) (f_X2_isLastDigitOfTicks z a0 a1 M) := by
  refine j_iload_n (pc := 0) C dX2_isLastDigitOfTicks_0 rfl ?_
  refine j_bipush (pc := 1) C dX2_isLastDigitOfTicks_1 (v := 48) rfl ?_
  refine j_icmp_ne (pc := 3) C dX2_isLastDigitOfTicks_3 (tgt := 15) (by decide) (fun hc4 => ?_) (fun hc4 => ?_)
  · refine j_iload_n (pc := 15) C dX2_isLastDigitOfTicks_15 rfl ?_
    refine j_bipush (pc := 16) C dX2_isLastDigitOfTicks_16 (v := 48) rfl ?_
    refine j_iload_n (pc := 18) C dX2_isLastDigitOfTicks_18 rfl ?_
    refine j_bipush (pc := 19) C dX2_isLastDigitOfTicks_19 (v := 54) rfl ?_
    refine j_icmp_ne (pc := 21) C dX2_isLastDigitOfTicks_21 (tgt := 29) (by decide) (fun hc1 => ?_) (fun hc1 => ?_)
    · refine j_bipush (pc := 29) C dX2_isLastDigitOfTicks_29 (v := 57) rfl ?_
      refine j_loc [] rfl ?_
      exact t_X2_isLastDigitOfTicks_b31 C  (57 : Int32) (48 : Int32) a1 M
    · refine j_bipush (pc := 24) C dX2_isLastDigitOfTicks_24 (v := 48) rfl ?_
      refine j_goto (pc := 26) C dX2_isLastDigitOfTicks_26 (tgt := 31) (by decide) ?_
      refine j_loc [] rfl ?_
      exact t_X2_isLastDigitOfTicks_b31 C  (48 : Int32) (48 : Int32) a1 M
  · refine j_iload_n (pc := 6) C dX2_isLastDigitOfTicks_6 rfl ?_
    refine j_bipush (pc := 7) C dX2_isLastDigitOfTicks_7 (v := 49) rfl ?_
    refine j_bipush (pc := 9) C dX2_isLastDigitOfTicks_9 (v := 57) rfl ?_
    refine j_callSi (pc := 11) C rfl dX2_isLastDigitOfTicks_11 ls_X2_92 rfl (Nat.le_of_ble_eq_true rfl) (Nat.le_of_ble_eq_true rfl) (by decide) (Or.inl rfl) ⟨Nat.le_refl _, Nat.le_refl _⟩ (fun l hl o ho => sp_X2_isBetween hl ho) (fun v3 M2 => ?_)
    exact j_zreturn (pc := 14) C rfl dX2_isLastDigitOfTicks_14 ⟨Nat.zero_le _, Nat.zero_le _⟩
theorem sp_X2_isLastDigitOfTicks {l : Launch} {z : Sh9} {N : Nv9} {a0 : Int32} {a1 : Int32} {M : Mem9} {o : Out9 × Mem9} (hl : l.stackTraces = false) (h : f_X2_isLastDigitOfTicks z a0 a1 M = some o) : Sp9 l z N yX2_isLastDigitOfTicks (Cond.code yX2_isLastDigitOfTicks cX2_isLastDigitOfTicks 2 (some .boolean)) 1 [.int a0, .int a1] M (co9 o.1) o :=
  sp9_of (rk := 2) (own := RX2) (by decide +kernel) rfl (Or.inr (Or.inr (Or.inl ⟨rfl, rfl⟩))) hl (Nat.le_of_ble_eq_true rfl) (fun X C => t_X2_isLastDigitOfTicks C a0 a1 M) h
def f_X2_isAllowed (z : Sh9) (a0 : Int32) (a1 : Int32) (a2 : Int32) (a3 : Int32) (M : Mem9) : Re9 :=
  (if a0 = (116 : Int32) then (if a1 = (1 : Int32) then (bi9 (f_X2_isBetween z a3 (48 : Int32) (54 : Int32) M) fun v12 M11 => (rz9 v12 M11)) else (bi9 (f_X2_isLastDigitOfTicks z a2 a3 M) fun v10 M9 => (rz9 v10 M9))) else (if a1 = (1 : Int32) then (bi9 (f_X2_isBetween z a3 (48 : Int32) (50 : Int32) M) fun v7 M6 => (rz9 v7 M6)) else (if a1 = (2 : Int32) then (bi9 (f_X2_isBetween z a3 (48 : Int32) (49 : Int32) M) fun v4 M3 => (rz9 v4 M3)) else (bi9 (f_X2_isLastDigitOfLength z a2 a3 M) fun v2 M1 => (rz9 v2 M1)))))
set_option maxRecDepth 20000 in
set_option maxHeartbeats 4000000 in
theorem t_X2_isAllowed {z : Sh9} {N : Nv9} {X : Cx9} {out : Out9 × Mem9} (C : OK9 z N X out 4 (co9 out.1) cX2_isAllowed RX2 2 2 []) (a0 : Int32) (a1 : Int32) (a2 : Int32) (a3 : Int32) (M : Mem9) : J9 z N X out 4 0 [(0, .int a0), (1, .int a1), (2, .int a2), (3, .int a3)] [] M (0, 0) (f_X2_isAllowed z a0 a1 a2 a3 M) := by
  refine j_iload_n (pc := 0) C dX2_isAllowed_0 rfl ?_
  refine j_bipush (pc := 1) C dX2_isAllowed_1 (v := 116) rfl ?_
  refine j_icmp_ne (pc := 3) C dX2_isAllowed_3 (tgt := 28) (by decide) (fun hc14 => ?_) (fun hc14 => ?_)
  · refine j_iload_n (pc := 28) C dX2_isAllowed_28 rfl ?_
    refine j_iconst (pc := 29) C dX2_isAllowed_29 (v := 1) rfl ?_
    refine j_icmp_ne (pc := 30) C dX2_isAllowed_30 (tgt := 42) (by decide) (fun hc8 => ?_) (fun hc8 => ?_)
    · refine j_iload_n (pc := 42) C dX2_isAllowed_42 rfl ?_
      refine j_iconst (pc := 43) C dX2_isAllowed_43 (v := 2) rfl ?_
      refine j_icmp_ne (pc := 44) C dX2_isAllowed_44 (tgt := 58) (by decide) (fun hc5 => ?_) (fun hc5 => ?_)
      · refine j_iload_n (pc := 58) C dX2_isAllowed_58 rfl ?_
        refine j_iload_n (pc := 59) C dX2_isAllowed_59 rfl ?_
        refine j_callSi (pc := 60) C rfl dX2_isAllowed_60 ls_X2_100 rfl (Nat.le_of_ble_eq_true rfl) (Nat.le_of_ble_eq_true rfl) (by decide) (Or.inl rfl) ⟨Nat.le_refl _, Nat.le_refl _⟩ (fun l hl o ho => sp_X2_isLastDigitOfLength hl ho) (fun v2 M1 => ?_)
        exact j_zreturn (pc := 63) C rfl dX2_isAllowed_63 ⟨Nat.zero_le _, Nat.zero_le _⟩
      · refine j_iload_n (pc := 47) C dX2_isAllowed_47 rfl ?_
        refine j_bipush (pc := 48) C dX2_isAllowed_48 (v := 48) rfl ?_
        refine j_bipush (pc := 50) C dX2_isAllowed_50 (v := 49) rfl ?_
        refine j_callSi (pc := 52) C rfl dX2_isAllowed_52 ls_X2_92 rfl (Nat.le_of_ble_eq_true rfl) (Nat.le_of_ble_eq_true rfl) (by decide) (Or.inl rfl) ⟨Nat.le_refl _, Nat.le_refl _⟩ (fun l hl o ho => sp_X2_isBetween hl ho) (fun v4 M3 => ?_)
        refine j_goto (pc := 55) C dX2_isAllowed_55 (tgt := 63) (by decide) ?_
        exact j_zreturn (pc := 63) C rfl dX2_isAllowed_63 ⟨Nat.zero_le _, Nat.zero_le _⟩
    · refine j_iload_n (pc := 33) C dX2_isAllowed_33 rfl ?_
      refine j_bipush (pc := 34) C dX2_isAllowed_34 (v := 48) rfl ?_
      refine j_bipush (pc := 36) C dX2_isAllowed_36 (v := 50) rfl ?_
      refine j_callSi (pc := 38) C rfl dX2_isAllowed_38 ls_X2_92 rfl (Nat.le_of_ble_eq_true rfl) (Nat.le_of_ble_eq_true rfl) (by decide) (Or.inl rfl) ⟨Nat.le_refl _, Nat.le_refl _⟩ (fun l hl o ho => sp_X2_isBetween hl ho) (fun v7 M6 => ?_)
      exact j_zreturn (pc := 41) C rfl dX2_isAllowed_41 ⟨Nat.zero_le _, Nat.zero_le _⟩
  · refine j_iload_n (pc := 6) C dX2_isAllowed_6 rfl ?_
    refine j_iconst (pc := 7) C dX2_isAllowed_7 (v := 1) rfl ?_
    refine j_icmp_ne (pc := 8) C dX2_isAllowed_8 (tgt := 22) (by decide) (fun hc13 => ?_) (fun hc13 => ?_)
    · refine j_iload_n (pc := 22) C dX2_isAllowed_22 rfl ?_
      refine j_iload_n (pc := 23) C dX2_isAllowed_23 rfl ?_
      refine j_callSi (pc := 24) C rfl dX2_isAllowed_24 ls_X2_96 rfl (Nat.le_of_ble_eq_true rfl) (Nat.le_of_ble_eq_true rfl) (by decide) (Or.inl rfl) ⟨Nat.le_refl _, Nat.le_refl _⟩ (fun l hl o ho => sp_X2_isLastDigitOfTicks hl ho) (fun v10 M9 => ?_)
      exact j_zreturn (pc := 27) C rfl dX2_isAllowed_27 ⟨Nat.zero_le _, Nat.zero_le _⟩
    · refine j_iload_n (pc := 11) C dX2_isAllowed_11 rfl ?_
      refine j_bipush (pc := 12) C dX2_isAllowed_12 (v := 48) rfl ?_
      refine j_bipush (pc := 14) C dX2_isAllowed_14 (v := 54) rfl ?_
      refine j_callSi (pc := 16) C rfl dX2_isAllowed_16 ls_X2_92 rfl (Nat.le_of_ble_eq_true rfl) (Nat.le_of_ble_eq_true rfl) (by decide) (Or.inl rfl) ⟨Nat.le_refl _, Nat.le_refl _⟩ (fun l hl o ho => sp_X2_isBetween hl ho) (fun v12 M11 => ?_)
      refine j_goto (pc := 19) C dX2_isAllowed_19 (tgt := 27) (by decide) ?_
      exact j_zreturn (pc := 27) C rfl dX2_isAllowed_27 ⟨Nat.zero_le _, Nat.zero_le _⟩
theorem sp_X2_isAllowed {l : Launch} {z : Sh9} {N : Nv9} {a0 : Int32} {a1 : Int32} {a2 : Int32} {a3 : Int32} {M : Mem9} {o : Out9 × Mem9} (hl : l.stackTraces = false) (h : f_X2_isAllowed z a0 a1 a2 a3 M = some o) : Sp9 l z N yX2_isAllowed (Cond.code yX2_isAllowed cX2_isAllowed 4 (some .boolean)) 2 [.int a0, .int a1, .int a2, .int a3] M (co9 o.1) o :=
  sp9_of (rk := 2) (own := RX2) (by decide +kernel) rfl (Or.inr (Or.inr (Or.inl ⟨rfl, rfl⟩))) hl (Nat.le_of_ble_eq_true rfl) (fun X C => t_X2_isAllowed C a0 a1 a2 a3 M) h
def f_X2_wrongSignOf_b20 (z : Sh9) (r20 : Nat → Int32 → Int32 → Int32 → Int32 → Mem9 → Re9) (x0 : Nat) (x1 : Int32) (x2 : Int32) (x3 : Int32) (x4 : Int32) (M : Mem9) : Re9 :=
  (if x3 ≤ x4 then (ri9 (-1 : Int32) M) else (bi9 (iv9 z x0 2 (f_X2_signAt z x0 ((x1 + x4) - (1 : Int32)) M)) fun v7 M6 => (bi9 (iv9 z x0 2 (f_X2_signAt z x0 (x1 + x4) M6)) fun v9 M8 => (bi9 (f_X2_isAllowed z x2 x4 v7 v9 M8) fun v11 M10 => (if v11 = 0 then (ri9 (x1 + x4) M10) else (r20 x0 x1 x2 x3 (x4 + (1 : Int32)) M10))))))
set_option maxRecDepth 20000 in
set_option maxHeartbeats 4000000 in
theorem t_X2_wrongSignOf_b20 {z : Sh9} {N : Nv9} {X : Cx9} {out : Out9 × Mem9} (C : OK9 z N X out 5 (co9 out.1) cX2_wrongSignOf RX2 3 1 []) {r20 : Nat → Int32 → Int32 → Int32 → Int32 → Mem9 → Re9} (h20 : ∀ (x0 : Nat) (x1 : Int32) (x2 : Int32) (x3 : Int32) (x4 : Int32) (M : Mem9), J9 z N X out 5 20 [(0, .ref x0), (1, .int x1), (2, .int x2), (3, .int x3), (4, .int x4)] [] M (0, 0) (r20 x0 x1 x2 x3 x4 M)) (x0 : Nat) (x1 : Int32) (x2 : Int32) (x3 : Int32) (x4 : Int32) (M : Mem9) : J9 z N X out 5 20 [(0, .ref x0), (1, .int x1), (2, .int x2), (3, .int x3), (4, .int x4)] [] M (0, 0) (f_X2_wrongSignOf_b20 z r20 x0 x1 x2 x3 x4 M) := by
  refine j_iload (pc := 20) C dX2_wrongSignOf_20 rfl ?_
  refine j_iload_n (pc := 22) C dX2_wrongSignOf_22 rfl ?_
  refine j_icmp_ge (pc := 23) C dX2_wrongSignOf_23 (tgt := 64) (by decide) (fun hc13 => ?_) (fun hc13 => ?_)
  · refine j_iconst (pc := 64) C dX2_wrongSignOf_64 (v := -1) rfl ?_
    exact j_ireturn (pc := 65) C rfl dX2_wrongSignOf_65 ⟨Nat.zero_le _, Nat.zero_le _⟩
  · refine j_iload_n (pc := 26) C dX2_wrongSignOf_26 rfl ?_
    refine j_iload (pc := 27) C dX2_wrongSignOf_27 rfl ?_
    refine j_aload_n (pc := 29) C dX2_wrongSignOf_29 rfl ?_
    refine j_iload_n (pc := 30) C dX2_wrongSignOf_30 rfl ?_
    refine j_iload (pc := 31) C dX2_wrongSignOf_31 rfl ?_
    refine j_iadd (pc := 33) C dX2_wrongSignOf_33 ?_
    refine j_iconst (pc := 34) C dX2_wrongSignOf_34 (v := 1) rfl ?_
    refine j_isub (pc := 35) C dX2_wrongSignOf_35 ?_
    refine j_callVi (pc := 36) C rfl dX2_wrongSignOf_36 lv_X2_56 rfl (Nat.le_of_ble_eq_true rfl) (Nat.le_of_ble_eq_true rfl) (by decide) (Or.inl rfl) ⟨Nat.le_refl _, Nat.le_refl _⟩ (fun l hl o ho => sp_X2_signAt hl ho) (fun v7 M6 => ?_)
    refine j_aload_n (pc := 39) C dX2_wrongSignOf_39 rfl ?_
    refine j_iload_n (pc := 40) C dX2_wrongSignOf_40 rfl ?_
    refine j_iload (pc := 41) C dX2_wrongSignOf_41 rfl ?_
    refine j_iadd (pc := 43) C dX2_wrongSignOf_43 ?_
    refine j_callVi (pc := 44) C rfl dX2_wrongSignOf_44 lv_X2_56 rfl (Nat.le_of_ble_eq_true rfl) (Nat.le_of_ble_eq_true rfl) (by decide) (Or.inl rfl) ⟨Nat.le_refl _, Nat.le_refl _⟩ (fun l hl o ho => sp_X2_signAt hl ho) (fun v9 M8 => ?_)
    refine j_callSi (pc := 47) C rfl dX2_wrongSignOf_47 ls_X2_88 rfl (Nat.le_of_ble_eq_true rfl) (Nat.le_of_ble_eq_true rfl) (by decide) (Or.inl rfl) ⟨Nat.le_refl _, Nat.le_refl _⟩ (fun l hl o ho => sp_X2_isAllowed hl ho) (fun v11 M10 => ?_)
    refine j_if_ne (pc := 50) C dX2_wrongSignOf_50 (tgt := 58) (by decide) (fun hc12 => ?_) (fun hc12 => ?_)
    · refine j_iinc (pc := 58) C dX2_wrongSignOf_58 rfl (v := (x4 + (1 : Int32))) rfl (Nat.le_of_ble_eq_true rfl) (ls' := [(4, .int (x4 + (1 : Int32))), (0, .ref x0), (1, .int x1), (2, .int x2), (3, .int x3)]) rfl ?_
      refine j_goto (pc := 61) C dX2_wrongSignOf_61 (tgt := 20) (by decide) ?_
      refine j_loc [1, 2, 3, 4, 0] rfl ?_
      exact h20 x0 x1 x2 x3 (x4 + (1 : Int32)) M10
    · refine j_iload_n (pc := 53) C dX2_wrongSignOf_53 rfl ?_
      refine j_iload (pc := 54) C dX2_wrongSignOf_54 rfl ?_
      refine j_iadd (pc := 56) C dX2_wrongSignOf_56 ?_
      exact j_ireturn (pc := 57) C rfl dX2_wrongSignOf_57 ⟨Nat.zero_le _, Nat.zero_le _⟩
theorem t_X2_wrongSignOf_l20 {z : Sh9} {N : Nv9} {X : Cx9} {out : Out9 × Mem9} (C : OK9 z N X out 5 (co9 out.1) cX2_wrongSignOf RX2 3 1 [])  : ∀ (n : Nat) (x0 : Nat) (x1 : Int32) (x2 : Int32) (x3 : Int32) (x4 : Int32) (M : Mem9), J9 z N X out 5 20 [(0, .ref x0), (1, .int x1), (2, .int x2), (3, .int x3), (4, .int x4)] [] M (0, 0) (fx9 (fun _ _ _ _ _ _ => none) (f_X2_wrongSignOf_b20 z ) n x0 x1 x2 x3 x4 M) := by
  intro n
  induction n with
  | zero => intro x0 x1 x2 x3 x4 M; exact j_none
  | succ n ih => intro x0 x1 x2 x3 x4 M; exact t_X2_wrongSignOf_b20 C  ih x0 x1 x2 x3 x4 M
def f_X2_wrongSignOf (z : Sh9) (a0 : Nat) (a1 : Int32) (M : Mem9) : Re9 :=
  (bi9 (iv9 z a0 2 (f_X2_signAt z a0 a1 M)) fun v2 M1 => (bi9 (f_X2_fixedLength z v2 M1) fun v4 M3 => (if v4 = 0 then (ri9 a1 M3) else (fx9 (fun _ _ _ _ _ _ => none) (f_X2_wrongSignOf_b20 z ) FU9 a0 a1 v2 v4 (1 : Int32) M3))))
set_option maxRecDepth 20000 in
set_option maxHeartbeats 4000000 in
theorem t_X2_wrongSignOf {z : Sh9} {N : Nv9} {X : Cx9} {out : Out9 × Mem9} (C : OK9 z N X out 5 (co9 out.1) cX2_wrongSignOf RX2 3 1 []) (a0 : Nat) (a1 : Int32) (M : Mem9) : J9 z N X out 5 0 [(0, .ref a0), (1, .int a1)] [] M (0, 0) (f_X2_wrongSignOf z a0 a1 M) := by
  refine j_aload_n (pc := 0) C dX2_wrongSignOf_0 rfl ?_
  refine j_iload_n (pc := 1) C dX2_wrongSignOf_1 rfl ?_
  refine j_callVi (pc := 2) C rfl dX2_wrongSignOf_2 lv_X2_56 rfl (Nat.le_of_ble_eq_true rfl) (Nat.le_of_ble_eq_true rfl) (by decide) (Or.inl rfl) ⟨Nat.le_refl _, Nat.le_refl _⟩ (fun l hl o ho => sp_X2_signAt hl ho) (fun v2 M1 => ?_)
  refine j_istore_n (pc := 5) C dX2_wrongSignOf_5 (Nat.le_of_ble_eq_true rfl) (ls' := [(2, .int v2), (0, .ref a0), (1, .int a1)]) rfl ?_
  refine j_iload_n (pc := 6) C dX2_wrongSignOf_6 rfl ?_
  refine j_callSi (pc := 7) C rfl dX2_wrongSignOf_7 ls_X2_85 rfl (Nat.le_of_ble_eq_true rfl) (Nat.le_of_ble_eq_true rfl) (by decide) (Or.inl rfl) ⟨Nat.le_refl _, Nat.le_refl _⟩ (fun l hl o ho => sp_X2_fixedLength hl ho) (fun v4 M3 => ?_)
  refine j_istore_n (pc := 10) C dX2_wrongSignOf_10 (Nat.le_of_ble_eq_true rfl) (ls' := [(3, .int v4), (2, .int v2), (0, .ref a0), (1, .int a1)]) rfl ?_
  refine j_iload_n (pc := 11) C dX2_wrongSignOf_11 rfl ?_
  refine j_if_ne (pc := 12) C dX2_wrongSignOf_12 (tgt := 17) (by decide) (fun hc5 => ?_) (fun hc5 => ?_)
  · refine j_iconst (pc := 17) C dX2_wrongSignOf_17 (v := 1) rfl ?_
    refine j_istore (pc := 18) C dX2_wrongSignOf_18 (Nat.le_of_ble_eq_true rfl) (ls' := [(4, .int (1 : Int32)), (3, .int v4), (2, .int v2), (0, .ref a0), (1, .int a1)]) rfl ?_
    refine j_loc [3, 4, 2, 1, 0] rfl ?_
    exact t_X2_wrongSignOf_l20 C  FU9 a0 a1 v2 v4 (1 : Int32) M3
  · refine j_iload_n (pc := 15) C dX2_wrongSignOf_15 rfl ?_
    exact j_ireturn (pc := 16) C rfl dX2_wrongSignOf_16 ⟨Nat.zero_le _, Nat.zero_le _⟩
theorem sp_X2_wrongSignOf {l : Launch} {z : Sh9} {N : Nv9} {a0 : Nat} {a1 : Int32} {M : Mem9} {o : Out9 × Mem9} (hl : l.stackTraces = false) (h : f_X2_wrongSignOf z a0 a1 M = some o) : Sp9 l z N yX2_wrongSignOf (Cond.code yX2_wrongSignOf cX2_wrongSignOf 5 (some .int)) 3 [.ref a0, .int a1] M (co9 o.1) o :=
  sp9_of (rk := 1) (own := RX2) (by decide +kernel) rfl (Or.inr (Or.inl ⟨rfl, rfl⟩)) hl (Nat.le_of_ble_eq_true rfl) (fun X C => t_X2_wrongSignOf C a0 a1 M) h
def f_X2_errorPosition_b16 (z : Sh9) (r16 : Nat → Int32 → Int32 → Mem9 → Re9) (x0 : Nat) (x1 : Int32) (x2 : Int32) (M : Mem9) : Re9 :=
  (if (120 : Int32) ≤ x2 then (ri9 (-1 : Int32) M) else ((gf9 z M x0 2 1).bind fun v4 => (if v4 ≤ x1 then (ri9 (-1 : Int32) M) else (bi9 (iv9 z x0 2 (f_X2_wrongSignOf z x0 x1 M)) fun v6 M5 => (if v6 = (-1 : Int32) then (bi9 (iv9 z x0 2 (f_X2_commandLength z x0 x1 M5)) fun v8 M7 => (nm9 (x1 + v8) fun (y9 : Int32) => (r16 x0 y9 (x2 + (1 : Int32)) M7))) else (ri9 v6 M5))))))
set_option maxRecDepth 20000 in
set_option maxHeartbeats 4000000 in
theorem t_X2_errorPosition_b16 {z : Sh9} {N : Nv9} {X : Cx9} {out : Out9 × Mem9} (C : OK9 z N X out 4 (co9 out.1) cX2_errorPosition RX2 4 1 []) {r16 : Nat → Int32 → Int32 → Mem9 → Re9} (h16 : ∀ (x0 : Nat) (x1 : Int32) (x2 : Int32) (M : Mem9), J9 z N X out 4 16 [(0, .ref x0), (1, .int x1), (2, .int x2)] [] M (0, 0) (r16 x0 x1 x2 M)) (x0 : Nat) (x1 : Int32) (x2 : Int32) (M : Mem9) : J9 z N X out 4 16 [(0, .ref x0), (1, .int x1), (2, .int x2)] [] M (0, 0) (f_X2_errorPosition_b16 z r16 x0 x1 x2 M) := by
  refine j_iload_n (pc := 16) C dX2_errorPosition_16 rfl ?_
  refine j_bipush (pc := 17) C dX2_errorPosition_17 (v := 120) rfl ?_
  refine j_icmp_ge (pc := 19) C dX2_errorPosition_19 (tgt := 57) (by decide) (fun hc12 => ?_) (fun hc12 => ?_)
  · refine j_iconst (pc := 57) C dX2_errorPosition_57 (v := -1) rfl ?_
    exact j_ireturn (pc := 58) C rfl dX2_errorPosition_58 ⟨Nat.zero_le _, Nat.zero_le _⟩
  · refine j_iload_n (pc := 22) C dX2_errorPosition_22 rfl ?_
    refine j_aload_n (pc := 23) C dX2_errorPosition_23 rfl ?_
    refine j_getI (pc := 24) C dX2_errorPosition_24 fl_X2_13 fi_X2_1 (fun v4 => ?_)
    refine j_icmp_ge (pc := 27) C dX2_errorPosition_27 (tgt := 57) (by decide) (fun hc11 => ?_) (fun hc11 => ?_)
    · refine j_iconst (pc := 57) C dX2_errorPosition_57 (v := -1) rfl ?_
      exact j_ireturn (pc := 58) C rfl dX2_errorPosition_58 ⟨Nat.zero_le _, Nat.zero_le _⟩
    · refine j_aload_n (pc := 30) C dX2_errorPosition_30 rfl ?_
      refine j_iload_n (pc := 31) C dX2_errorPosition_31 rfl ?_
      refine j_callVi (pc := 32) C rfl dX2_errorPosition_32 lv_X2_60 rfl (Nat.le_of_ble_eq_true rfl) (Nat.le_of_ble_eq_true rfl) (by decide) (Or.inl rfl) ⟨Nat.le_refl _, Nat.le_refl _⟩ (fun l hl o ho => sp_X2_wrongSignOf hl ho) (fun v6 M5 => ?_)
      refine j_istore_n (pc := 35) C dX2_errorPosition_35 (Nat.le_of_ble_eq_true rfl) (ls' := [(3, .int v6), (0, .ref x0), (1, .int x1), (2, .int x2)]) rfl ?_
      refine j_iload_n (pc := 36) C dX2_errorPosition_36 rfl ?_
      refine j_iconst (pc := 37) C dX2_errorPosition_37 (v := -1) rfl ?_
      refine j_icmp_eq (pc := 38) C dX2_errorPosition_38 (tgt := 43) (by decide) (fun hc10 => ?_) (fun hc10 => ?_)
      · refine j_iload_n (pc := 43) C dX2_errorPosition_43 rfl ?_
        refine j_aload_n (pc := 44) C dX2_errorPosition_44 rfl ?_
        refine j_iload_n (pc := 45) C dX2_errorPosition_45 rfl ?_
        refine j_callVi (pc := 46) C rfl dX2_errorPosition_46 lv_X2_63 rfl (Nat.le_of_ble_eq_true rfl) (Nat.le_of_ble_eq_true rfl) (by decide) (Or.inl rfl) ⟨Nat.le_refl _, Nat.le_refl _⟩ (fun l hl o ho => sp_X2_commandLength hl ho) (fun v8 M7 => ?_)
        refine j_iadd (pc := 49) C dX2_errorPosition_49 ?_
        refine j_nm (st' := fun x9 : Int32 => .int x9 :: []) rfl (fun y9 => ?_)
        refine j_istore_n (pc := 50) C dX2_errorPosition_50 (Nat.le_of_ble_eq_true rfl) (ls' := [(1, .int y9), (3, .int v6), (0, .ref x0), (2, .int x2)]) rfl ?_
        refine j_iinc (pc := 51) C dX2_errorPosition_51 rfl (v := (x2 + (1 : Int32))) rfl (Nat.le_of_ble_eq_true rfl) (ls' := [(2, .int (x2 + (1 : Int32))), (1, .int y9), (3, .int v6), (0, .ref x0)]) rfl ?_
        refine j_goto (pc := 54) C dX2_errorPosition_54 (tgt := 16) (by decide) ?_
        refine j_loc [3, 1, 0] rfl ?_
        exact h16 x0 y9 (x2 + (1 : Int32)) M7
      · refine j_iload_n (pc := 41) C dX2_errorPosition_41 rfl ?_
        exact j_ireturn (pc := 42) C rfl dX2_errorPosition_42 ⟨Nat.zero_le _, Nat.zero_le _⟩
theorem t_X2_errorPosition_l16 {z : Sh9} {N : Nv9} {X : Cx9} {out : Out9 × Mem9} (C : OK9 z N X out 4 (co9 out.1) cX2_errorPosition RX2 4 1 [])  : ∀ (n : Nat) (x0 : Nat) (x1 : Int32) (x2 : Int32) (M : Mem9), J9 z N X out 4 16 [(0, .ref x0), (1, .int x1), (2, .int x2)] [] M (0, 0) (fx9 (fun _ _ _ _ => none) (f_X2_errorPosition_b16 z ) n x0 x1 x2 M) := by
  intro n
  induction n with
  | zero => intro x0 x1 x2 M; exact j_none
  | succ n ih => intro x0 x1 x2 M; exact t_X2_errorPosition_b16 C  ih x0 x1 x2 M
def f_X2_errorPosition (z : Sh9) (a0 : Nat) (M : Mem9) : Re9 :=
  (bi9 (iv9 z a0 2 (f_X2_signAt z a0 (0 : Int32) M)) fun v2 M1 => (if v2 = (71 : Int32) then (fx9 (fun _ _ _ _ => none) (f_X2_errorPosition_b16 z ) FU9 a0 (1 : Int32) (0 : Int32) M1) else (ri9 (0 : Int32) M1)))
set_option maxRecDepth 20000 in
set_option maxHeartbeats 4000000 in
theorem t_X2_errorPosition {z : Sh9} {N : Nv9} {X : Cx9} {out : Out9 × Mem9} (C : OK9 z N X out 4 (co9 out.1) cX2_errorPosition RX2 4 1 []) (a0 : Nat) (M : Mem9) : J9 z N X out 4 0 [(0, .ref a0)] [] M (0, 0) (f_X2_errorPosition z a0 M) := by
  refine j_aload_n (pc := 0) C dX2_errorPosition_0 rfl ?_
  refine j_iconst (pc := 1) C dX2_errorPosition_1 (v := 0) rfl ?_
  refine j_callVi (pc := 2) C rfl dX2_errorPosition_2 lv_X2_56 rfl (Nat.le_of_ble_eq_true rfl) (Nat.le_of_ble_eq_true rfl) (by decide) (Or.inl rfl) ⟨Nat.le_refl _, Nat.le_refl _⟩ (fun l hl o ho => sp_X2_signAt hl ho) (fun v2 M1 => ?_)
  refine j_bipush (pc := 5) C dX2_errorPosition_5 (v := 71) rfl ?_
  refine j_icmp_eq (pc := 7) C dX2_errorPosition_7 (tgt := 12) (by decide) (fun hc3 => ?_) (fun hc3 => ?_)
  · refine j_iconst (pc := 12) C dX2_errorPosition_12 (v := 1) rfl ?_
    refine j_istore_n (pc := 13) C dX2_errorPosition_13 (Nat.le_of_ble_eq_true rfl) (ls' := [(1, .int (1 : Int32)), (0, .ref a0)]) rfl ?_
    refine j_iconst (pc := 14) C dX2_errorPosition_14 (v := 0) rfl ?_
    refine j_istore_n (pc := 15) C dX2_errorPosition_15 (Nat.le_of_ble_eq_true rfl) (ls' := [(2, .int (0 : Int32)), (1, .int (1 : Int32)), (0, .ref a0)]) rfl ?_
    refine j_loc [2, 1, 0] rfl ?_
    exact t_X2_errorPosition_l16 C  FU9 a0 (1 : Int32) (0 : Int32) M1
  · refine j_iconst (pc := 10) C dX2_errorPosition_10 (v := 0) rfl ?_
    exact j_ireturn (pc := 11) C rfl dX2_errorPosition_11 ⟨Nat.zero_le _, Nat.zero_le _⟩
theorem sp_X2_errorPosition {l : Launch} {z : Sh9} {N : Nv9} {a0 : Nat} {M : Mem9} {o : Out9 × Mem9} (hl : l.stackTraces = false) (h : f_X2_errorPosition z a0 M = some o) : Sp9 l z N yX2_errorPosition (Cond.code yX2_errorPosition cX2_errorPosition 4 (some .int)) 4 [.ref a0] M (co9 o.1) o :=
  sp9_of (rk := 1) (own := RX2) (by decide +kernel) rfl (Or.inr (Or.inl ⟨rfl, rfl⟩)) hl (Nat.le_of_ble_eq_true rfl) (fun X C => t_X2_errorPosition C a0 M) h
def f_X2_load_b80 (z : Sh9) (r55 : Nat → Int32 → Int32 → Int32 → Mem9 → Re9) (x0 : Nat) (x1 : Int32) (x2 : Int32) (x3 : Int32) (M : Mem9) : Re9 :=
  (bi9 (iv9 z x0 2 (f_X2_commandLength z x0 x2 M)) fun v17 M16 => (nm9 (x2 + v17) fun (y18 : Int32) => (r55 x0 x1 y18 (x3 + (1 : Int32)) M16)))
set_option maxRecDepth 20000 in
set_option maxHeartbeats 4000000 in
theorem t_X2_load_b80 {z : Sh9} {N : Nv9} {X : Cx9} {out : Out9 × Mem9} (C : OK9 z N X out 4 (co9 out.1) cX2_load RX2 6 1 []) {r55 : Nat → Int32 → Int32 → Int32 → Mem9 → Re9} (h55 : ∀ (x0 : Nat) (x1 : Int32) (x2 : Int32) (x3 : Int32) (M : Mem9), J9 z N X out 4 55 [(0, .ref x0), (1, .int x1), (2, .int x2), (3, .int x3)] [] M (0, 0) (r55 x0 x1 x2 x3 M)) (x0 : Nat) (x1 : Int32) (x2 : Int32) (x3 : Int32) (M : Mem9) : J9 z N X out 4 80 [(0, .ref x0), (1, .int x1), (2, .int x2), (3, .int x3)] [] M (0, 0) (f_X2_load_b80 z r55 x0 x1 x2 x3 M) := by
  refine j_iload_n (pc := 80) C dX2_load_80 rfl ?_
  refine j_aload_n (pc := 81) C dX2_load_81 rfl ?_
  refine j_iload_n (pc := 82) C dX2_load_82 rfl ?_
  refine j_callVi (pc := 83) C rfl dX2_load_83 lv_X2_63 rfl (Nat.le_of_ble_eq_true rfl) (Nat.le_of_ble_eq_true rfl) (by decide) (Or.inl rfl) ⟨Nat.le_refl _, Nat.le_refl _⟩ (fun l hl o ho => sp_X2_commandLength hl ho) (fun v17 M16 => ?_)
  refine j_iadd (pc := 86) C dX2_load_86 ?_
  refine j_nm (st' := fun x9 : Int32 => .int x9 :: []) rfl (fun y18 => ?_)
  refine j_istore_n (pc := 87) C dX2_load_87 (Nat.le_of_ble_eq_true rfl) (ls' := [(2, .int y18), (0, .ref x0), (1, .int x1), (3, .int x3)]) rfl ?_
  refine j_iinc (pc := 88) C dX2_load_88 rfl (v := (x3 + (1 : Int32))) rfl (Nat.le_of_ble_eq_true rfl) (ls' := [(3, .int (x3 + (1 : Int32))), (2, .int y18), (0, .ref x0), (1, .int x1)]) rfl ?_
  refine j_goto (pc := 91) C dX2_load_91 (tgt := 55) (by decide) ?_
  refine j_loc [2, 3, 1, 0] rfl ?_
  exact h55 x0 x1 y18 (x3 + (1 : Int32)) M16
def f_X2_load_b55 (z : Sh9) (r55 : Nat → Int32 → Int32 → Int32 → Mem9 → Re9) (x0 : Nat) (x1 : Int32) (x2 : Int32) (x3 : Int32) (M : Mem9) : Re9 :=
  (if (120 : Int32) ≤ x3 then (ri9 x1 M) else ((gf9 z M x0 2 1).bind fun v10 => (if v10 ≤ x2 then (ri9 x1 M) else (bi9 (iv9 z x0 2 (f_X2_doCommand z x0 x2 M)) fun v12 M11 => (if v12 = 0 then (f_X2_load_b80 z r55 x0 (x1 + (1 : Int32)) x2 x3 M11) else (f_X2_load_b80 z r55 x0 x1 x2 x3 M11))))))
set_option maxRecDepth 20000 in
set_option maxHeartbeats 4000000 in
theorem t_X2_load_b55 {z : Sh9} {N : Nv9} {X : Cx9} {out : Out9 × Mem9} (C : OK9 z N X out 4 (co9 out.1) cX2_load RX2 6 1 []) {r55 : Nat → Int32 → Int32 → Int32 → Mem9 → Re9} (h55 : ∀ (x0 : Nat) (x1 : Int32) (x2 : Int32) (x3 : Int32) (M : Mem9), J9 z N X out 4 55 [(0, .ref x0), (1, .int x1), (2, .int x2), (3, .int x3)] [] M (0, 0) (r55 x0 x1 x2 x3 M)) (x0 : Nat) (x1 : Int32) (x2 : Int32) (x3 : Int32) (M : Mem9) : J9 z N X out 4 55 [(0, .ref x0), (1, .int x1), (2, .int x2), (3, .int x3)] [] M (0, 0) (f_X2_load_b55 z r55 x0 x1 x2 x3 M) := by
  refine j_iload_n (pc := 55) C dX2_load_55 rfl ?_
  refine j_bipush (pc := 56) C dX2_load_56 (v := 120) rfl ?_
  refine j_icmp_ge (pc := 58) C dX2_load_58 (tgt := 94) (by decide) (fun hc15 => ?_) (fun hc15 => ?_)
  · refine j_iload_n (pc := 94) C dX2_load_94 rfl ?_
    exact j_ireturn (pc := 95) C rfl dX2_load_95 ⟨Nat.zero_le _, Nat.zero_le _⟩
  · refine j_iload_n (pc := 61) C dX2_load_61 rfl ?_
    refine j_aload_n (pc := 62) C dX2_load_62 rfl ?_
    refine j_getI (pc := 63) C dX2_load_63 fl_X2_13 fi_X2_1 (fun v10 => ?_)
    refine j_icmp_ge (pc := 66) C dX2_load_66 (tgt := 94) (by decide) (fun hc14 => ?_) (fun hc14 => ?_)
    · refine j_iload_n (pc := 94) C dX2_load_94 rfl ?_
      exact j_ireturn (pc := 95) C rfl dX2_load_95 ⟨Nat.zero_le _, Nat.zero_le _⟩
    · refine j_aload_n (pc := 69) C dX2_load_69 rfl ?_
      refine j_iload_n (pc := 70) C dX2_load_70 rfl ?_
      refine j_callVi (pc := 71) C rfl dX2_load_71 lv_X2_78 rfl (Nat.le_of_ble_eq_true rfl) (Nat.le_of_ble_eq_true rfl) (by decide) (Or.inl rfl) ⟨Nat.le_refl _, Nat.le_refl _⟩ (fun l hl o ho => sp_X2_doCommand hl ho) (fun v12 M11 => ?_)
      refine j_if_ne (pc := 74) C dX2_load_74 (tgt := 80) (by decide) (fun hc13 => ?_) (fun hc13 => ?_)
      · exact t_X2_load_b80 C h55 x0 x1 x2 x3 M11
      · refine j_iinc (pc := 77) C dX2_load_77 rfl (v := (x1 + (1 : Int32))) rfl (Nat.le_of_ble_eq_true rfl) (ls' := [(1, .int (x1 + (1 : Int32))), (0, .ref x0), (2, .int x2), (3, .int x3)]) rfl ?_
        refine j_loc [1, 0, 2, 3] rfl ?_
        exact t_X2_load_b80 C h55 x0 (x1 + (1 : Int32)) x2 x3 M11
theorem t_X2_load_l55 {z : Sh9} {N : Nv9} {X : Cx9} {out : Out9 × Mem9} (C : OK9 z N X out 4 (co9 out.1) cX2_load RX2 6 1 [])  : ∀ (n : Nat) (x0 : Nat) (x1 : Int32) (x2 : Int32) (x3 : Int32) (M : Mem9), J9 z N X out 4 55 [(0, .ref x0), (1, .int x1), (2, .int x2), (3, .int x3)] [] M (0, 0) (fx9 (fun _ _ _ _ _ => none) (f_X2_load_b55 z ) n x0 x1 x2 x3 M) := by
  intro n
  induction n with
  | zero => intro x0 x1 x2 x3 M; exact j_none
  | succ n ih => intro x0 x1 x2 x3 M; exact t_X2_load_b55 C  ih x0 x1 x2 x3 M
def f_X2_load_b31 (z : Sh9) (r31 : Nat → Int32 → Mem9 → Re9) (x0 : Nat) (x1 : Int32) (M : Mem9) : Re9 :=
  (if (2 : Int32) ≤ x1 then (fx9 (fun _ _ _ _ _ => none) (f_X2_load_b55 z ) FU9 x0 (0 : Int32) (1 : Int32) (0 : Int32) M) else ((rf9 z x0 2 46).bind fun v7 => ((sz9 z M v7 x1 (0 : Int32)).bind fun M8 => (r31 x0 (x1 + (1 : Int32)) M8))))
set_option maxRecDepth 20000 in
set_option maxHeartbeats 4000000 in
theorem t_X2_load_b31 {z : Sh9} {N : Nv9} {X : Cx9} {out : Out9 × Mem9} (C : OK9 z N X out 4 (co9 out.1) cX2_load RX2 6 1 []) {r31 : Nat → Int32 → Mem9 → Re9} (h31 : ∀ (x0 : Nat) (x1 : Int32) (M : Mem9), J9 z N X out 4 31 [(0, .ref x0), (1, .int x1)] [] M (0, 0) (r31 x0 x1 M)) (x0 : Nat) (x1 : Int32) (M : Mem9) : J9 z N X out 4 31 [(0, .ref x0), (1, .int x1)] [] M (0, 0) (f_X2_load_b31 z r31 x0 x1 M) := by
  refine j_iload_n (pc := 31) C dX2_load_31 rfl ?_
  refine j_iconst (pc := 32) C dX2_load_32 (v := 2) rfl ?_
  refine j_icmp_ge (pc := 33) C dX2_load_33 (tgt := 49) (by decide) (fun hc9 => ?_) (fun hc9 => ?_)
  · refine j_iconst (pc := 49) C dX2_load_49 (v := 0) rfl ?_
    refine j_istore_n (pc := 50) C dX2_load_50 (Nat.le_of_ble_eq_true rfl) (ls' := [(1, .int (0 : Int32)), (0, .ref x0)]) rfl ?_
    refine j_iconst (pc := 51) C dX2_load_51 (v := 1) rfl ?_
    refine j_istore_n (pc := 52) C dX2_load_52 (Nat.le_of_ble_eq_true rfl) (ls' := [(2, .int (1 : Int32)), (1, .int (0 : Int32)), (0, .ref x0)]) rfl ?_
    refine j_iconst (pc := 53) C dX2_load_53 (v := 0) rfl ?_
    refine j_istore_n (pc := 54) C dX2_load_54 (Nat.le_of_ble_eq_true rfl) (ls' := [(3, .int (0 : Int32)), (2, .int (1 : Int32)), (1, .int (0 : Int32)), (0, .ref x0)]) rfl ?_
    refine j_loc [3, 2, 1, 0] rfl ?_
    exact t_X2_load_l55 C  FU9 x0 (0 : Int32) (1 : Int32) (0 : Int32) M
  · refine j_aload_n (pc := 36) C dX2_load_36 rfl ?_
    refine j_getR (pc := 37) C dX2_load_37 fl_X2_40 fr_X2_8 (fun v7 => ?_)
    refine j_iload_n (pc := 40) C dX2_load_40 rfl ?_
    refine j_iconst (pc := 41) C dX2_load_41 (v := 0) rfl ?_
    refine j_bastore (pc := 42) C dX2_load_42 (fun M8 => ?_)
    refine j_iinc (pc := 43) C dX2_load_43 rfl (v := (x1 + (1 : Int32))) rfl (Nat.le_of_ble_eq_true rfl) (ls' := [(1, .int (x1 + (1 : Int32))), (0, .ref x0)]) rfl ?_
    refine j_goto (pc := 46) C dX2_load_46 (tgt := 31) (by decide) ?_
    refine j_loc [1, 0] rfl ?_
    exact h31 x0 (x1 + (1 : Int32)) M8
theorem t_X2_load_l31 {z : Sh9} {N : Nv9} {X : Cx9} {out : Out9 × Mem9} (C : OK9 z N X out 4 (co9 out.1) cX2_load RX2 6 1 [])  : ∀ (n : Nat) (x0 : Nat) (x1 : Int32) (M : Mem9), J9 z N X out 4 31 [(0, .ref x0), (1, .int x1)] [] M (0, 0) (fx9 (fun _ _ _ => none) (f_X2_load_b31 z ) n x0 x1 M) := by
  intro n
  induction n with
  | zero => intro x0 x1 M; exact j_none
  | succ n ih => intro x0 x1 M; exact t_X2_load_b31 C  ih x0 x1 M
def f_X2_load (z : Sh9) (a0 : Nat) (M : Mem9) : Re9 :=
  (bi9 (iv9 z a0 2 (f_X2_errorPosition z a0  M)) fun v2 M1 => (if v2 = (-1 : Int32) then ((rf9 z a0 2 2).bind fun v3 => (bv9 (iv9 z v3 0 (f_X0_clear z v3  M1)) fun M4 => (bv9 (iv9 z a0 2 (f_X2_forgetAll z a0  M4)) fun M5 => (fx9 (fun _ _ _ => none) (f_X2_load_b31 z ) FU9 a0 (0 : Int32) M5)))) else (tx9 "java/lang/IllegalStateException" M1)))
set_option maxRecDepth 20000 in
set_option maxHeartbeats 4000000 in
theorem t_X2_load {z : Sh9} {N : Nv9} {X : Cx9} {out : Out9 × Mem9} (C : OK9 z N X out 4 (co9 out.1) cX2_load RX2 6 1 []) (a0 : Nat) (M : Mem9) : J9 z N X out 4 0 [(0, .ref a0)] [] M (0, 0) (f_X2_load z a0 M) := by
  refine j_aload_n (pc := 0) C dX2_load_0 rfl ?_
  refine j_callVi (pc := 1) C rfl dX2_load_1 lv_X2_66 rfl (Nat.le_of_ble_eq_true rfl) (Nat.le_of_ble_eq_true rfl) (by decide) (Or.inl rfl) ⟨Nat.le_refl _, Nat.le_refl _⟩ (fun l hl o ho => sp_X2_errorPosition hl ho) (fun v2 M1 => ?_)
  refine j_iconst (pc := 4) C dX2_load_4 (v := -1) rfl ?_
  refine j_icmp_eq (pc := 5) C dX2_load_5 (tgt := 18) (by decide) (fun hc6 => ?_) (fun hc6 => ?_)
  · refine j_aload_n (pc := 18) C dX2_load_18 rfl ?_
    refine j_getR (pc := 19) C dX2_load_19 fl_X2_20 fr_X2_2 (fun v3 => ?_)
    refine j_callVv (pc := 22) C rfl dX2_load_22 lv_X2_72 rfl (Nat.le_of_ble_eq_true rfl) (Nat.le_of_ble_eq_true rfl) (by decide) (Or.inl rfl) ⟨Nat.le_refl _, Nat.le_refl _⟩ (fun l hl o ho => sp_X0_clear hl ho) (fun M4 => ?_)
    refine j_aload_n (pc := 25) C dX2_load_25 rfl ?_
    refine j_callVv (pc := 26) C rfl dX2_load_26 lv_X2_75 rfl (Nat.le_of_ble_eq_true rfl) (Nat.le_of_ble_eq_true rfl) (by decide) (Or.inl rfl) ⟨Nat.le_refl _, Nat.le_refl _⟩ (fun l hl o ho => sp_X2_forgetAll hl ho) (fun M5 => ?_)
    refine j_iconst (pc := 29) C dX2_load_29 (v := 0) rfl ?_
    refine j_istore_n (pc := 30) C dX2_load_30 (Nat.le_of_ble_eq_true rfl) (ls' := [(1, .int (0 : Int32)), (0, .ref a0)]) rfl ?_
    refine j_loc [1, 0] rfl ?_
    exact t_X2_load_l31 C  FU9 a0 (0 : Int32) M5
  · exact j_throw (pc := 8) C rfl th_X2_load_8 (by decide) (Nat.le_of_ble_eq_true rfl) rfl ⟨Nat.le_refl _, Nat.le_refl _⟩
theorem sp_X2_load {l : Launch} {z : Sh9} {N : Nv9} {a0 : Nat} {M : Mem9} {o : Out9 × Mem9} (hl : l.stackTraces = false) (h : f_X2_load z a0 M = some o) : Sp9 l z N yX2_load (Cond.code yX2_load cX2_load 4 (some .int)) 6 [.ref a0] M (co9 o.1) o :=
  sp9_of (rk := 1) (own := RX2) (by decide +kernel) rfl (Or.inr (Or.inl ⟨rfl, rfl⟩)) hl (Nat.le_of_ble_eq_true rfl) (fun X C => t_X2_load C a0 M) h
def f_X2_mend (z : Sh9) (a0 : Nat) (a1 : Int32) (M : Mem9) : Re9 :=
  (bv9 (iv9 z a0 2 (f_X2_checkLane z a0 a1 M)) fun M1 => ((rf9 z a0 2 2).bind fun v2 => ((rf9 z v2 0 1).bind fun v3 => ((la9 z 14 v3 a1).bind fun v4 => (bi9 (iv9 z v4 1 (f_X1_canBeMended z v4  M1)) fun v6 M5 => (if v6 = 0 then (tx9 "java/lang/IllegalStateException" M5) else (bv9 (iv9 z a0 2 (f_X2_remember z a0  M5)) fun M7 => ((rf9 z a0 2 2).bind fun v8 => (bi9 (iv9 z v8 0 (f_X0_mendArm z v8 a1 M7)) fun v10 M9 => ((rf9 z a0 2 2).bind fun v11 => ((rf9 z v11 0 1).bind fun v12 => ((la9 z 14 v12 a1).bind fun v13 => ((gf9 z M9 v13 1 6).bind fun v14 => (ri9 v14 M9))))))))))))))
set_option maxRecDepth 20000 in
set_option maxHeartbeats 4000000 in
theorem t_X2_mend {z : Sh9} {N : Nv9} {X : Cx9} {out : Out9 × Mem9} (C : OK9 z N X out 2 (co9 out.1) cX2_mend RX2 7 1 []) (a0 : Nat) (a1 : Int32) (M : Mem9) : J9 z N X out 2 0 [(0, .ref a0), (1, .int a1)] [] M (0, 0) (f_X2_mend z a0 a1 M) := by
  refine j_aload_n (pc := 0) C dX2_mend_0 rfl ?_
  refine j_iload_n (pc := 1) C dX2_mend_1 rfl ?_
  refine j_callVv (pc := 2) C rfl dX2_mend_2 lv_X2_138 rfl (Nat.le_of_ble_eq_true rfl) (Nat.le_of_ble_eq_true rfl) (by decide) (Or.inl rfl) ⟨Nat.le_refl _, Nat.le_refl _⟩ (fun l hl o ho => sp_X2_checkLane hl ho) (fun M1 => ?_)
  refine j_aload_n (pc := 5) C dX2_mend_5 rfl ?_
  refine j_getR (pc := 6) C dX2_mend_6 fl_X2_20 fr_X2_2 (fun v2 => ?_)
  refine j_getR (pc := 9) C dX2_mend_9 fl_X2_144 fr_X0_0 (fun v3 => ?_)
  refine j_iload_n (pc := 12) C dX2_mend_12 rfl ?_
  refine j_aaload (t := 14) (pc := 13) C dX2_mend_13 (by decide) (fun v4 => ?_)
  refine j_callVi (pc := 14) C rfl dX2_mend_14 lv_X2_200 rfl (Nat.le_of_ble_eq_true rfl) (Nat.le_of_ble_eq_true rfl) (by decide) (Or.inl rfl) ⟨Nat.le_refl _, Nat.le_refl _⟩ (fun l hl o ho => sp_X1_canBeMended hl ho) (fun v6 M5 => ?_)
  refine j_if_ne (pc := 17) C dX2_mend_17 (tgt := 30) (by decide) (fun hc15 => ?_) (fun hc15 => ?_)
  · refine j_aload_n (pc := 30) C dX2_mend_30 rfl ?_
    refine j_callVv (pc := 31) C rfl dX2_mend_31 lv_X2_189 rfl (Nat.le_of_ble_eq_true rfl) (Nat.le_of_ble_eq_true rfl) (by decide) (Or.inl rfl) ⟨Nat.le_refl _, Nat.le_refl _⟩ (fun l hl o ho => sp_X2_remember hl ho) (fun M7 => ?_)
    refine j_aload_n (pc := 34) C dX2_mend_34 rfl ?_
    refine j_getR (pc := 35) C dX2_mend_35 fl_X2_20 fr_X2_2 (fun v8 => ?_)
    refine j_iload_n (pc := 38) C dX2_mend_38 rfl ?_
    refine j_callVi (pc := 39) C rfl dX2_mend_39 lv_X2_114 rfl (Nat.le_of_ble_eq_true rfl) (Nat.le_of_ble_eq_true rfl) (by decide) (Or.inl rfl) ⟨Nat.le_refl _, Nat.le_refl _⟩ (fun l hl o ho => sp_X0_mendArm hl ho) (fun v10 M9 => ?_)
    refine j_pop (pc := 42) C dX2_mend_42 rfl ?_
    refine j_aload_n (pc := 43) C dX2_mend_43 rfl ?_
    refine j_getR (pc := 44) C dX2_mend_44 fl_X2_20 fr_X2_2 (fun v11 => ?_)
    refine j_getR (pc := 47) C dX2_mend_47 fl_X2_144 fr_X0_0 (fun v12 => ?_)
    refine j_iload_n (pc := 50) C dX2_mend_50 rfl ?_
    refine j_aaload (t := 14) (pc := 51) C dX2_mend_51 (by decide) (fun v13 => ?_)
    refine j_getI (pc := 52) C dX2_mend_52 fl_X2_205 fi_X1_6 (fun v14 => ?_)
    exact j_ireturn (pc := 55) C rfl dX2_mend_55 ⟨Nat.zero_le _, Nat.zero_le _⟩
  · exact j_throw (pc := 20) C rfl th_X2_mend_20 (by decide) (Nat.le_of_ble_eq_true rfl) rfl ⟨Nat.le_refl _, Nat.le_refl _⟩
theorem sp_X2_mend {l : Launch} {z : Sh9} {N : Nv9} {a0 : Nat} {a1 : Int32} {M : Mem9} {o : Out9 × Mem9} (hl : l.stackTraces = false) (h : f_X2_mend z a0 a1 M = some o) : Sp9 l z N yX2_mend (Cond.code yX2_mend cX2_mend 2 (some .int)) 7 [.ref a0, .int a1] M (co9 o.1) o :=
  sp9_of (rk := 1) (own := RX2) (by decide +kernel) rfl (Or.inr (Or.inl ⟨rfl, rfl⟩)) hl (Nat.le_of_ble_eq_true rfl) (fun X C => t_X2_mend C a0 a1 M) h
def f_X2_run (z : Sh9) (a0 : Nat) (a1 : Int32) (M : Mem9) : Re9 :=
  (if a1 < (1 : Int32) then (tx9 "java/lang/IllegalArgumentException" M) else (if a1 ≤ (60 : Int32) then (bv9 (iv9 z a0 2 (f_X2_remember z a0  M)) fun M1 => ((rf9 z a0 2 2).bind fun v2 => (bi9 (iv9 z v2 0 (f_X0_total z v2 (4 : Int32) M1)) fun v4 M3 => ((rf9 z a0 2 2).bind fun v5 => (bi9 (iv9 z v5 0 (f_X0_total z v5 (5 : Int32) M3)) fun v7 M6 => (nm9 (v4 + v7) fun (y8 : Int32) => ((rf9 z a0 2 2).bind fun v9 => (bi9 (iv9 z v9 0 (f_X0_letTicksGo z v9 a1 M6)) fun v11 M10 => ((rf9 z a0 2 2).bind fun v12 => (bi9 (iv9 z v12 0 (f_X0_total z v12 (4 : Int32) M10)) fun v14 M13 => ((rf9 z a0 2 2).bind fun v15 => (bi9 (iv9 z v15 0 (f_X0_total z v15 (5 : Int32) M13)) fun v17 M16 => (ri9 ((v14 + v17) - y8) M16))))))))))))) else (tx9 "java/lang/IllegalArgumentException" M)))
set_option maxRecDepth 20000 in
set_option maxHeartbeats 4000000 in
theorem t_X2_run {z : Sh9} {N : Nv9} {X : Cx9} {out : Out9 × Mem9} (C : OK9 z N X out 3 (co9 out.1) cX2_run RX2 6 1 []) (a0 : Nat) (a1 : Int32) (M : Mem9) : J9 z N X out 3 0 [(0, .ref a0), (1, .int a1)] [] M (0, 0) (f_X2_run z a0 a1 M) := by
  refine j_iload_n (pc := 0) C dX2_run_0 rfl ?_
  refine j_iconst (pc := 1) C dX2_run_1 (v := 1) rfl ?_
  refine j_icmp_lt (pc := 2) C dX2_run_2 (tgt := 11) (by decide) (fun hc19 => ?_) (fun hc19 => ?_)
  · exact j_throw (pc := 11) C rfl th_X2_run_11 (by decide) (Nat.le_of_ble_eq_true rfl) rfl ⟨Nat.le_refl _, Nat.le_refl _⟩
  · refine j_iload_n (pc := 5) C dX2_run_5 rfl ?_
    refine j_bipush (pc := 6) C dX2_run_6 (v := 60) rfl ?_
    refine j_icmp_le (pc := 8) C dX2_run_8 (tgt := 21) (by decide) (fun hc18 => ?_) (fun hc18 => ?_)
    · refine j_aload_n (pc := 21) C dX2_run_21 rfl ?_
      refine j_callVv (pc := 22) C rfl dX2_run_22 lv_X2_189 rfl (Nat.le_of_ble_eq_true rfl) (Nat.le_of_ble_eq_true rfl) (by decide) (Or.inl rfl) ⟨Nat.le_refl _, Nat.le_refl _⟩ (fun l hl o ho => sp_X2_remember hl ho) (fun M1 => ?_)
      refine j_aload_n (pc := 25) C dX2_run_25 rfl ?_
      refine j_getR (pc := 26) C dX2_run_26 fl_X2_20 fr_X2_2 (fun v2 => ?_)
      refine j_iconst (pc := 29) C dX2_run_29 (v := 4) rfl ?_
      refine j_callVi (pc := 30) C rfl dX2_run_30 lv_X2_135 rfl (Nat.le_of_ble_eq_true rfl) (Nat.le_of_ble_eq_true rfl) (by decide) (Or.inl rfl) ⟨Nat.le_refl _, Nat.le_refl _⟩ (fun l hl o ho => sp_X0_total hl ho) (fun v4 M3 => ?_)
      refine j_aload_n (pc := 33) C dX2_run_33 rfl ?_
      refine j_getR (pc := 34) C dX2_run_34 fl_X2_20 fr_X2_2 (fun v5 => ?_)
      refine j_iconst (pc := 37) C dX2_run_37 (v := 5) rfl ?_
      refine j_callVi (pc := 38) C rfl dX2_run_38 lv_X2_135 rfl (Nat.le_of_ble_eq_true rfl) (Nat.le_of_ble_eq_true rfl) (by decide) (Or.inl rfl) ⟨Nat.le_refl _, Nat.le_refl _⟩ (fun l hl o ho => sp_X0_total hl ho) (fun v7 M6 => ?_)
      refine j_iadd (pc := 41) C dX2_run_41 ?_
      refine j_nm (st' := fun x9 : Int32 => .int x9 :: []) rfl (fun y8 => ?_)
      refine j_istore_n (pc := 42) C dX2_run_42 (Nat.le_of_ble_eq_true rfl) (ls' := [(2, .int y8), (0, .ref a0), (1, .int a1)]) rfl ?_
      refine j_aload_n (pc := 43) C dX2_run_43 rfl ?_
      refine j_getR (pc := 44) C dX2_run_44 fl_X2_20 fr_X2_2 (fun v9 => ?_)
      refine j_iload_n (pc := 47) C dX2_run_47 rfl ?_
      refine j_callVi (pc := 48) C rfl dX2_run_48 lv_X2_120 rfl (Nat.le_of_ble_eq_true rfl) (Nat.le_of_ble_eq_true rfl) (by decide) (Or.inl rfl) ⟨Nat.le_refl _, Nat.le_refl _⟩ (fun l hl o ho => sp_X0_letTicksGo hl ho) (fun v11 M10 => ?_)
      refine j_pop (pc := 51) C dX2_run_51 rfl ?_
      refine j_aload_n (pc := 52) C dX2_run_52 rfl ?_
      refine j_getR (pc := 53) C dX2_run_53 fl_X2_20 fr_X2_2 (fun v12 => ?_)
      refine j_iconst (pc := 56) C dX2_run_56 (v := 4) rfl ?_
      refine j_callVi (pc := 57) C rfl dX2_run_57 lv_X2_135 rfl (Nat.le_of_ble_eq_true rfl) (Nat.le_of_ble_eq_true rfl) (by decide) (Or.inl rfl) ⟨Nat.le_refl _, Nat.le_refl _⟩ (fun l hl o ho => sp_X0_total hl ho) (fun v14 M13 => ?_)
      refine j_aload_n (pc := 60) C dX2_run_60 rfl ?_
      refine j_getR (pc := 61) C dX2_run_61 fl_X2_20 fr_X2_2 (fun v15 => ?_)
      refine j_iconst (pc := 64) C dX2_run_64 (v := 5) rfl ?_
      refine j_callVi (pc := 65) C rfl dX2_run_65 lv_X2_135 rfl (Nat.le_of_ble_eq_true rfl) (Nat.le_of_ble_eq_true rfl) (by decide) (Or.inl rfl) ⟨Nat.le_refl _, Nat.le_refl _⟩ (fun l hl o ho => sp_X0_total hl ho) (fun v17 M16 => ?_)
      refine j_iadd (pc := 68) C dX2_run_68 ?_
      refine j_iload_n (pc := 69) C dX2_run_69 rfl ?_
      refine j_isub (pc := 70) C dX2_run_70 ?_
      exact j_ireturn (pc := 71) C rfl dX2_run_71 ⟨Nat.zero_le _, Nat.zero_le _⟩
    · exact j_throw (pc := 11) C rfl th_X2_run_11 (by decide) (Nat.le_of_ble_eq_true rfl) rfl ⟨Nat.le_refl _, Nat.le_refl _⟩
theorem sp_X2_run {l : Launch} {z : Sh9} {N : Nv9} {a0 : Nat} {a1 : Int32} {M : Mem9} {o : Out9 × Mem9} (hl : l.stackTraces = false) (h : f_X2_run z a0 a1 M = some o) : Sp9 l z N yX2_run (Cond.code yX2_run cX2_run 3 (some .int)) 6 [.ref a0, .int a1] M (co9 o.1) o :=
  sp9_of (rk := 1) (own := RX2) (by decide +kernel) rfl (Or.inr (Or.inl ⟨rfl, rfl⟩)) hl (Nat.le_of_ble_eq_true rfl) (fun X C => t_X2_run C a0 a1 M) h
def f_X2_setting (z : Sh9) (a0 : Nat) (a1 : Int32) (M : Mem9) : Re9 :=
  (if a1 < 0 then (tx9 "java/lang/IllegalArgumentException" M) else (if a1 < (3 : Int32) then ((rf9 z a0 2 2).bind fun v1 => ((rf9 z v1 0 2).bind fun v2 => ((ld9 z M 10 v2 a1).bind fun v3 => (ri9 v3 M)))) else (tx9 "java/lang/IllegalArgumentException" M)))
set_option maxRecDepth 20000 in
set_option maxHeartbeats 4000000 in
theorem t_X2_setting {z : Sh9} {N : Nv9} {X : Cx9} {out : Out9 × Mem9} (C : OK9 z N X out 2 (co9 out.1) cX2_setting RX2 6 1 []) (a0 : Nat) (a1 : Int32) (M : Mem9) : J9 z N X out 2 0 [(0, .ref a0), (1, .int a1)] [] M (0, 0) (f_X2_setting z a0 a1 M) := by
  refine j_iload_n (pc := 0) C dX2_setting_0 rfl ?_
  refine j_if_lt (pc := 1) C dX2_setting_1 (tgt := 9) (by decide) (fun hc5 => ?_) (fun hc5 => ?_)
  · exact j_throw (pc := 9) C rfl th_X2_setting_9 (by decide) (Nat.le_of_ble_eq_true rfl) rfl ⟨Nat.le_refl _, Nat.le_refl _⟩
  · refine j_iload_n (pc := 4) C dX2_setting_4 rfl ?_
    refine j_iconst (pc := 5) C dX2_setting_5 (v := 3) rfl ?_
    refine j_icmp_lt (pc := 6) C dX2_setting_6 (tgt := 19) (by decide) (fun hc4 => ?_) (fun hc4 => ?_)
    · refine j_aload_n (pc := 19) C dX2_setting_19 rfl ?_
      refine j_getR (pc := 20) C dX2_setting_20 fl_X2_20 fr_X2_2 (fun v1 => ?_)
      refine j_getR (pc := 23) C dX2_setting_23 fl_X2_168 fr_X0_1 (fun v2 => ?_)
      refine j_iload_n (pc := 26) C dX2_setting_26 rfl ?_
      refine j_iaload (pc := 27) C dX2_setting_27 (fun v3 => ?_)
      exact j_ireturn (pc := 28) C rfl dX2_setting_28 ⟨Nat.zero_le _, Nat.zero_le _⟩
    · exact j_throw (pc := 9) C rfl th_X2_setting_9 (by decide) (Nat.le_of_ble_eq_true rfl) rfl ⟨Nat.le_refl _, Nat.le_refl _⟩
theorem sp_X2_setting {l : Launch} {z : Sh9} {N : Nv9} {a0 : Nat} {a1 : Int32} {M : Mem9} {o : Out9 × Mem9} (hl : l.stackTraces = false) (h : f_X2_setting z a0 a1 M = some o) : Sp9 l z N yX2_setting (Cond.code yX2_setting cX2_setting 2 (some .int)) 6 [.ref a0, .int a1] M (co9 o.1) o :=
  sp9_of (rk := 1) (own := RX2) (by decide +kernel) rfl (Or.inr (Or.inl ⟨rfl, rfl⟩)) hl (Nat.le_of_ble_eq_true rfl) (fun X C => t_X2_setting C a0 a1 M) h
def f_X2_checkVehicle (z : Sh9) (a0 : Nat) (a1 : Int32) (a2 : Int32) (M : Mem9) : Re9 :=
  (bv9 (iv9 z a0 2 (f_X2_checkLane z a0 a1 M)) fun M1 => ((rf9 z a0 2 2).bind fun v2 => ((rf9 z v2 0 1).bind fun v3 => ((la9 z 14 v3 a1).bind fun v4 => (bi9 (iv9 z v4 1 (f_X1_hasVehicle z v4 a2 M1)) fun v6 M5 => (if v6 = 0 then (tx9 "java/lang/IndexOutOfBoundsException" M5) else (rv9 M5)))))))
set_option maxRecDepth 20000 in
set_option maxHeartbeats 4000000 in
theorem t_X2_checkVehicle {z : Sh9} {N : Nv9} {X : Cx9} {out : Out9 × Mem9} (C : OK9 z N X out 3 (co9 out.1) cX2_checkVehicle RX2 7 0 []) (a0 : Nat) (a1 : Int32) (a2 : Int32) (M : Mem9) : J9 z N X out 3 0 [(0, .ref a0), (1, .int a1), (2, .int a2)] [] M (0, 0) (f_X2_checkVehicle z a0 a1 a2 M) := by
  refine j_aload_n (pc := 0) C dX2_checkVehicle_0 rfl ?_
  refine j_iload_n (pc := 1) C dX2_checkVehicle_1 rfl ?_
  refine j_callVv (pc := 2) C rfl dX2_checkVehicle_2 lv_X2_138 rfl (Nat.le_of_ble_eq_true rfl) (Nat.le_of_ble_eq_true rfl) (by decide) (Or.inl rfl) ⟨Nat.le_refl _, Nat.le_refl _⟩ (fun l hl o ho => sp_X2_checkLane hl ho) (fun M1 => ?_)
  refine j_aload_n (pc := 5) C dX2_checkVehicle_5 rfl ?_
  refine j_getR (pc := 6) C dX2_checkVehicle_6 fl_X2_20 fr_X2_2 (fun v2 => ?_)
  refine j_getR (pc := 9) C dX2_checkVehicle_9 fl_X2_144 fr_X0_0 (fun v3 => ?_)
  refine j_iload_n (pc := 12) C dX2_checkVehicle_12 rfl ?_
  refine j_aaload (t := 14) (pc := 13) C dX2_checkVehicle_13 (by decide) (fun v4 => ?_)
  refine j_iload_n (pc := 14) C dX2_checkVehicle_14 rfl ?_
  refine j_callVi (pc := 15) C rfl dX2_checkVehicle_15 lv_X2_180 rfl (Nat.le_of_ble_eq_true rfl) (Nat.le_of_ble_eq_true rfl) (by decide) (Or.inl rfl) ⟨Nat.le_refl _, Nat.le_refl _⟩ (fun l hl o ho => sp_X1_hasVehicle hl ho) (fun v6 M5 => ?_)
  refine j_if_ne (pc := 18) C dX2_checkVehicle_18 (tgt := 31) (by decide) (fun hc7 => ?_) (fun hc7 => ?_)
  · exact j_return (pc := 31) C rfl dX2_checkVehicle_31 ⟨Nat.zero_le _, Nat.zero_le _⟩
  · exact j_throw (pc := 21) C rfl th_X2_checkVehicle_21 (by decide) (Nat.le_of_ble_eq_true rfl) rfl ⟨Nat.le_refl _, Nat.le_refl _⟩
theorem sp_X2_checkVehicle {l : Launch} {z : Sh9} {N : Nv9} {a0 : Nat} {a1 : Int32} {a2 : Int32} {M : Mem9} {o : Out9 × Mem9} (hl : l.stackTraces = false) (h : f_X2_checkVehicle z a0 a1 a2 M = some o) : Sp9 l z N yX2_checkVehicle (Cond.code yX2_checkVehicle cX2_checkVehicle 3 none) 7 [.ref a0, .int a1, .int a2] M (co9 o.1) o :=
  sp9_of (rk := 0) (own := RX2) (by decide +kernel) rfl (Or.inl ⟨rfl, rfl⟩) hl (Nat.le_of_ble_eq_true rfl) (fun X C => t_X2_checkVehicle C a0 a1 a2 M) h
def f_X2_throughIn (z : Sh9) (a0 : Nat) (a1 : Int32) (a2 : Int32) (M : Mem9) : Re9 :=
  (bv9 (iv9 z a0 2 (f_X2_checkVehicle z a0 a1 a2 M)) fun M1 => ((rf9 z a0 2 23).bind fun v2 => ((rf9 z a0 2 2).bind fun v3 => (bv9 (iv9 z v2 0 (f_X0_copyFrom z v2 v3 M1)) fun M4 => (bi9 (iv9 z a0 2 (f_X2_copyThroughIn z a0 a1 a2 M4)) fun v6 M5 => (ri9 v6 M5))))))
set_option maxRecDepth 20000 in
set_option maxHeartbeats 4000000 in
theorem t_X2_throughIn {z : Sh9} {N : Nv9} {X : Cx9} {out : Out9 × Mem9} (C : OK9 z N X out 3 (co9 out.1) cX2_throughIn RX2 8 1 []) (a0 : Nat) (a1 : Int32) (a2 : Int32) (M : Mem9) : J9 z N X out 3 0 [(0, .ref a0), (1, .int a1), (2, .int a2)] [] M (0, 0) (f_X2_throughIn z a0 a1 a2 M) := by
  refine j_aload_n (pc := 0) C dX2_throughIn_0 rfl ?_
  refine j_iload_n (pc := 1) C dX2_throughIn_1 rfl ?_
  refine j_iload_n (pc := 2) C dX2_throughIn_2 rfl ?_
  refine j_callVv (pc := 3) C rfl dX2_throughIn_3 lv_X2_153 rfl (Nat.le_of_ble_eq_true rfl) (Nat.le_of_ble_eq_true rfl) (by decide) (Or.inl rfl) ⟨Nat.le_refl _, Nat.le_refl _⟩ (fun l hl o ho => sp_X2_checkVehicle hl ho) (fun M1 => ?_)
  refine j_aload_n (pc := 6) C dX2_throughIn_6 rfl ?_
  refine j_getR (pc := 7) C dX2_throughIn_7 fl_X2_24 fr_X2_3 (fun v2 => ?_)
  refine j_aload_n (pc := 10) C dX2_throughIn_10 rfl ?_
  refine j_getR (pc := 11) C dX2_throughIn_11 fl_X2_20 fr_X2_2 (fun v3 => ?_)
  refine j_callVv (pc := 14) C rfl dX2_throughIn_14 lv_X2_220 rfl (Nat.le_of_ble_eq_true rfl) (Nat.le_of_ble_eq_true rfl) (by decide) (Or.inl rfl) ⟨Nat.le_refl _, Nat.le_refl _⟩ (fun l hl o ho => sp_X0_copyFrom hl ho) (fun M4 => ?_)
  refine j_aload_n (pc := 17) C dX2_throughIn_17 rfl ?_
  refine j_iload_n (pc := 18) C dX2_throughIn_18 rfl ?_
  refine j_iload_n (pc := 19) C dX2_throughIn_19 rfl ?_
  refine j_callVi (pc := 20) C rfl dX2_throughIn_20 lv_X2_228 rfl (Nat.le_of_ble_eq_true rfl) (Nat.le_of_ble_eq_true rfl) (by decide) (Or.inl rfl) ⟨Nat.le_refl _, Nat.le_refl _⟩ (fun l hl o ho => sp_X2_copyThroughIn hl ho) (fun v6 M5 => ?_)
  exact j_ireturn (pc := 23) C rfl dX2_throughIn_23 ⟨Nat.zero_le _, Nat.zero_le _⟩
theorem sp_X2_throughIn {l : Launch} {z : Sh9} {N : Nv9} {a0 : Nat} {a1 : Int32} {a2 : Int32} {M : Mem9} {o : Out9 × Mem9} (hl : l.stackTraces = false) (h : f_X2_throughIn z a0 a1 a2 M = some o) : Sp9 l z N yX2_throughIn (Cond.code yX2_throughIn cX2_throughIn 3 (some .int)) 8 [.ref a0, .int a1, .int a2] M (co9 o.1) o :=
  sp9_of (rk := 1) (own := RX2) (by decide +kernel) rfl (Or.inr (Or.inl ⟨rfl, rfl⟩)) hl (Nat.le_of_ble_eq_true rfl) (fun X C => t_X2_throughIn C a0 a1 a2 M) h
def f_X2_undo (z : Sh9) (a0 : Nat) (M : Mem9) : Re9 :=
  ((gf9 z M a0 2 6).bind fun v1 => (if 0 < v1 then ((gf9 z M a0 2 6).bind fun v2 => ((pf9 z M a0 2 6 (v2 - (1 : Int32))).bind fun M3 => ((rf9 z a0 2 2).bind fun v4 => ((rf9 z a0 2 44).bind fun v5 => ((gf9 z M3 a0 2 5).bind fun v6 => ((gf9 z M3 a0 2 6).bind fun v7 => ((rm9 (v6 + v7) (14 : Int32)).bind fun v8 => ((la9 z 15 v5 v8).bind fun v9 => (bv9 (iv9 z v4 0 (f_X0_copyFrom z v4 v9 M3)) fun M10 => ((gf9 z M10 a0 2 6).bind fun v11 => (ri9 v11 M10))))))))))) else (tx9 "java/lang/IllegalStateException" M)))
set_option maxRecDepth 20000 in
set_option maxHeartbeats 4000000 in
theorem t_X2_undo {z : Sh9} {N : Nv9} {X : Cx9} {out : Out9 × Mem9} (C : OK9 z N X out 1 (co9 out.1) cX2_undo RX2 6 1 []) (a0 : Nat) (M : Mem9) : J9 z N X out 1 0 [(0, .ref a0)] [] M (0, 0) (f_X2_undo z a0 M) := by
  refine j_aload_n (pc := 0) C dX2_undo_0 rfl ?_
  refine j_getI (pc := 1) C dX2_undo_1 fl_X2_34 fi_X2_6 (fun v1 => ?_)
  refine j_if_gt (pc := 4) C dX2_undo_4 (tgt := 17) (by decide) (fun hc12 => ?_) (fun hc12 => ?_)
  · refine j_aload_n (pc := 17) C dX2_undo_17 rfl ?_
    refine j_dup (pc := 18) C dX2_undo_18 rfl ?_
    refine j_getI (pc := 19) C dX2_undo_19 fl_X2_34 fi_X2_6 (fun v2 => ?_)
    refine j_iconst (pc := 22) C dX2_undo_22 (v := 1) rfl ?_
    refine j_isub (pc := 23) C dX2_undo_23 ?_
    refine j_putI (pc := 24) C dX2_undo_24 fl_X2_34 fi_X2_6 rfl rfl (fun M3 => ?_)
    refine j_aload_n (pc := 27) C dX2_undo_27 rfl ?_
    refine j_getR (pc := 28) C dX2_undo_28 fl_X2_20 fr_X2_2 (fun v4 => ?_)
    refine j_aload_n (pc := 31) C dX2_undo_31 rfl ?_
    refine j_getR (pc := 32) C dX2_undo_32 fl_X2_27 fr_X2_4 (fun v5 => ?_)
    refine j_aload_n (pc := 35) C dX2_undo_35 rfl ?_
    refine j_getI (pc := 36) C dX2_undo_36 fl_X2_31 fi_X2_5 (fun v6 => ?_)
    refine j_aload_n (pc := 39) C dX2_undo_39 rfl ?_
    refine j_getI (pc := 40) C dX2_undo_40 fl_X2_34 fi_X2_6 (fun v7 => ?_)
    refine j_iadd (pc := 43) C dX2_undo_43 ?_
    refine j_bipush (pc := 44) C dX2_undo_44 (v := 14) rfl ?_
    refine j_irem (pc := 46) C dX2_undo_46 (fun v8 => ?_)
    refine j_aaload (t := 15) (pc := 47) C dX2_undo_47 (by decide) (fun v9 => ?_)
    refine j_callVv (pc := 48) C rfl dX2_undo_48 lv_X2_220 rfl (Nat.le_of_ble_eq_true rfl) (Nat.le_of_ble_eq_true rfl) (by decide) (Or.inl rfl) ⟨Nat.le_refl _, Nat.le_refl _⟩ (fun l hl o ho => sp_X0_copyFrom hl ho) (fun M10 => ?_)
    refine j_aload_n (pc := 51) C dX2_undo_51 rfl ?_
    refine j_getI (pc := 52) C dX2_undo_52 fl_X2_34 fi_X2_6 (fun v11 => ?_)
    exact j_ireturn (pc := 55) C rfl dX2_undo_55 ⟨Nat.zero_le _, Nat.zero_le _⟩
  · exact j_throw (pc := 7) C rfl th_X2_undo_7 (by decide) (Nat.le_of_ble_eq_true rfl) rfl ⟨Nat.le_refl _, Nat.le_refl _⟩
theorem sp_X2_undo {l : Launch} {z : Sh9} {N : Nv9} {a0 : Nat} {M : Mem9} {o : Out9 × Mem9} (hl : l.stackTraces = false) (h : f_X2_undo z a0 M = some o) : Sp9 l z N yX2_undo (Cond.code yX2_undo cX2_undo 1 (some .int)) 6 [.ref a0] M (co9 o.1) o :=
  sp9_of (rk := 1) (own := RX2) (by decide +kernel) rfl (Or.inr (Or.inl ⟨rfl, rfl⟩)) hl (Nat.le_of_ble_eq_true rfl) (fun X C => t_X2_undo C a0 M) h
def f_X2_vehicle (z : Sh9) (a0 : Nat) (a1 : Int32) (a2 : Int32) (a3 : Int32) (M : Mem9) : Re9 :=
  (bv9 (iv9 z a0 2 (f_X2_checkVehicle z a0 a1 a2 M)) fun M1 => (if a3 < 0 then (tx9 "java/lang/IllegalArgumentException" M1) else (if a3 ≤ (4 : Int32) then ((rf9 z a0 2 2).bind fun v2 => ((rf9 z v2 0 1).bind fun v3 => ((la9 z 14 v3 a1).bind fun v4 => (bi9 (iv9 z v4 1 (f_X1_numberOfVehicle z v4 a2 a3 M1)) fun v6 M5 => (ri9 v6 M5))))) else (tx9 "java/lang/IllegalArgumentException" M1))))
set_option maxRecDepth 20000 in
set_option maxHeartbeats 4000000 in
theorem t_X2_vehicle {z : Sh9} {N : Nv9} {X : Cx9} {out : Out9 × Mem9} (C : OK9 z N X out 4 (co9 out.1) cX2_vehicle RX2 8 1 []) (a0 : Nat) (a1 : Int32) (a2 : Int32) (a3 : Int32) (M : Mem9) : J9 z N X out 4 0 [(0, .ref a0), (1, .int a1), (2, .int a2), (3, .int a3)] [] M (0, 0) (f_X2_vehicle z a0 a1 a2 a3 M) := by
  refine j_aload_n (pc := 0) C dX2_vehicle_0 rfl ?_
  refine j_iload_n (pc := 1) C dX2_vehicle_1 rfl ?_
  refine j_iload_n (pc := 2) C dX2_vehicle_2 rfl ?_
  refine j_callVv (pc := 3) C rfl dX2_vehicle_3 lv_X2_153 rfl (Nat.le_of_ble_eq_true rfl) (Nat.le_of_ble_eq_true rfl) (by decide) (Or.inl rfl) ⟨Nat.le_refl _, Nat.le_refl _⟩ (fun l hl o ho => sp_X2_checkVehicle hl ho) (fun M1 => ?_)
  refine j_iload_n (pc := 6) C dX2_vehicle_6 rfl ?_
  refine j_if_lt (pc := 7) C dX2_vehicle_7 (tgt := 15) (by decide) (fun hc8 => ?_) (fun hc8 => ?_)
  · exact j_throw (pc := 15) C rfl th_X2_vehicle_15 (by decide) (Nat.le_of_ble_eq_true rfl) rfl ⟨Nat.le_refl _, Nat.le_refl _⟩
  · refine j_iload_n (pc := 10) C dX2_vehicle_10 rfl ?_
    refine j_iconst (pc := 11) C dX2_vehicle_11 (v := 4) rfl ?_
    refine j_icmp_le (pc := 12) C dX2_vehicle_12 (tgt := 25) (by decide) (fun hc7 => ?_) (fun hc7 => ?_)
    · refine j_aload_n (pc := 25) C dX2_vehicle_25 rfl ?_
      refine j_getR (pc := 26) C dX2_vehicle_26 fl_X2_20 fr_X2_2 (fun v2 => ?_)
      refine j_getR (pc := 29) C dX2_vehicle_29 fl_X2_144 fr_X0_0 (fun v3 => ?_)
      refine j_iload_n (pc := 32) C dX2_vehicle_32 rfl ?_
      refine j_aaload (t := 14) (pc := 33) C dX2_vehicle_33 (by decide) (fun v4 => ?_)
      refine j_iload_n (pc := 34) C dX2_vehicle_34 rfl ?_
      refine j_iload_n (pc := 35) C dX2_vehicle_35 rfl ?_
      refine j_callVi (pc := 36) C rfl dX2_vehicle_36 lv_X2_159 rfl (Nat.le_of_ble_eq_true rfl) (Nat.le_of_ble_eq_true rfl) (by decide) (Or.inl rfl) ⟨Nat.le_refl _, Nat.le_refl _⟩ (fun l hl o ho => sp_X1_numberOfVehicle hl ho) (fun v6 M5 => ?_)
      exact j_ireturn (pc := 39) C rfl dX2_vehicle_39 ⟨Nat.zero_le _, Nat.zero_le _⟩
    · exact j_throw (pc := 15) C rfl th_X2_vehicle_15 (by decide) (Nat.le_of_ble_eq_true rfl) rfl ⟨Nat.le_refl _, Nat.le_refl _⟩
theorem sp_X2_vehicle {l : Launch} {z : Sh9} {N : Nv9} {a0 : Nat} {a1 : Int32} {a2 : Int32} {a3 : Int32} {M : Mem9} {o : Out9 × Mem9} (hl : l.stackTraces = false) (h : f_X2_vehicle z a0 a1 a2 a3 M = some o) : Sp9 l z N yX2_vehicle (Cond.code yX2_vehicle cX2_vehicle 4 (some .int)) 8 [.ref a0, .int a1, .int a2, .int a3] M (co9 o.1) o :=
  sp9_of (rk := 1) (own := RX2) (by decide +kernel) rfl (Or.inr (Or.inl ⟨rfl, rfl⟩)) hl (Nat.le_of_ble_eq_true rfl) (fun X C => t_X2_vehicle C a0 a1 a2 a3 M) h
def f_X2_why (z : Sh9) (a0 : Nat) (a1 : Int32) (M : Mem9) : Re9 :=
  (bv9 (iv9 z a0 2 (f_X2_checkLane z a0 a1 M)) fun M1 => ((rf9 z a0 2 2).bind fun v2 => ((rf9 z v2 0 1).bind fun v3 => ((la9 z 14 v3 a1).bind fun v4 => (bi9 (iv9 z v4 1 (f_X1_reason z v4  M1)) fun v6 M5 => (ri9 v6 M5))))))
set_option maxRecDepth 20000 in
set_option maxHeartbeats 4000000 in
theorem t_X2_why {z : Sh9} {N : Nv9} {X : Cx9} {out : Out9 × Mem9} (C : OK9 z N X out 2 (co9 out.1) cX2_why RX2 7 1 []) (a0 : Nat) (a1 : Int32) (M : Mem9) : J9 z N X out 2 0 [(0, .ref a0), (1, .int a1)] [] M (0, 0) (f_X2_why z a0 a1 M) := by
  refine j_aload_n (pc := 0) C dX2_why_0 rfl ?_
  refine j_iload_n (pc := 1) C dX2_why_1 rfl ?_
  refine j_callVv (pc := 2) C rfl dX2_why_2 lv_X2_138 rfl (Nat.le_of_ble_eq_true rfl) (Nat.le_of_ble_eq_true rfl) (by decide) (Or.inl rfl) ⟨Nat.le_refl _, Nat.le_refl _⟩ (fun l hl o ho => sp_X2_checkLane hl ho) (fun M1 => ?_)
  refine j_aload_n (pc := 5) C dX2_why_5 rfl ?_
  refine j_getR (pc := 6) C dX2_why_6 fl_X2_20 fr_X2_2 (fun v2 => ?_)
  refine j_getR (pc := 9) C dX2_why_9 fl_X2_144 fr_X0_0 (fun v3 => ?_)
  refine j_iload_n (pc := 12) C dX2_why_12 rfl ?_
  refine j_aaload (t := 14) (pc := 13) C dX2_why_13 (by decide) (fun v4 => ?_)
  refine j_callVi (pc := 14) C rfl dX2_why_14 lv_X2_163 rfl (Nat.le_of_ble_eq_true rfl) (Nat.le_of_ble_eq_true rfl) (by decide) (Or.inl rfl) ⟨Nat.le_refl _, Nat.le_refl _⟩ (fun l hl o ho => sp_X1_reason hl ho) (fun v6 M5 => ?_)
  exact j_ireturn (pc := 17) C rfl dX2_why_17 ⟨Nat.zero_le _, Nat.zero_le _⟩
theorem sp_X2_why {l : Launch} {z : Sh9} {N : Nv9} {a0 : Nat} {a1 : Int32} {M : Mem9} {o : Out9 × Mem9} (hl : l.stackTraces = false) (h : f_X2_why z a0 a1 M = some o) : Sp9 l z N yX2_why (Cond.code yX2_why cX2_why 2 (some .int)) 7 [.ref a0, .int a1] M (co9 o.1) o :=
  sp9_of (rk := 1) (own := RX2) (by decide +kernel) rfl (Or.inr (Or.inl ⟨rfl, rfl⟩)) hl (Nat.le_of_ble_eq_true rfl) (fun X C => t_X2_why C a0 a1 M) h
def f_X2_arrive (z : Sh9) (a0 : Nat) (a1 : Int32) (a2 : Int32) (a3 : Int32) (a4 : Int32) (M : Mem9) : Re9 :=
  (bv9 (iv9 z a0 2 (f_X2_checkLane z a0 a1 M)) fun M1 => (bv9 (f_X2_checkLength z a2 M1) fun M2 => ((rf9 z a0 2 2).bind fun v3 => ((rf9 z v3 0 1).bind fun v4 => ((la9 z 14 v4 a1).bind fun v5 => ((gf9 z M2 v5 1 5).bind fun v6 => (if v6 < (6 : Int32) then (bv9 (iv9 z a0 2 (f_X2_remember z a0  M2)) fun M7 => ((rf9 z a0 2 2).bind fun v8 => (bi9 (iv9 z v8 0 (f_X0_addVehicle z v8 a1 a2 a3 a4 M7)) fun v10 M9 => ((rf9 z a0 2 2).bind fun v11 => ((rf9 z v11 0 1).bind fun v12 => ((la9 z 14 v12 a1).bind fun v13 => ((gf9 z M9 v13 1 5).bind fun v14 => (ri9 v14 M9)))))))) else (tx9 "java/lang/IllegalStateException" M2))))))))
set_option maxRecDepth 20000 in
set_option maxHeartbeats 4000000 in
theorem t_X2_arrive {z : Sh9} {N : Nv9} {X : Cx9} {out : Out9 × Mem9} (C : OK9 z N X out 5 (co9 out.1) cX2_arrive RX2 7 1 []) (a0 : Nat) (a1 : Int32) (a2 : Int32) (a3 : Int32) (a4 : Int32) (M : Mem9) : J9 z N X out 5 0 [(0, .ref a0), (1, .int a1), (2, .int a2), (3, .int a3), (4, .int a4)] [] M (0, 0) (f_X2_arrive z a0 a1 a2 a3 a4 M) := by
  refine j_aload_n (pc := 0) C dX2_arrive_0 rfl ?_
  refine j_iload_n (pc := 1) C dX2_arrive_1 rfl ?_
  refine j_callVv (pc := 2) C rfl dX2_arrive_2 lv_X2_138 rfl (Nat.le_of_ble_eq_true rfl) (Nat.le_of_ble_eq_true rfl) (by decide) (Or.inl rfl) ⟨Nat.le_refl _, Nat.le_refl _⟩ (fun l hl o ho => sp_X2_checkLane hl ho) (fun M1 => ?_)
  refine j_iload_n (pc := 5) C dX2_arrive_5 rfl ?_
  refine j_callSv (pc := 6) C rfl dX2_arrive_6 ls_X2_192 rfl (Nat.le_of_ble_eq_true rfl) (Nat.le_of_ble_eq_true rfl) (by decide) (Or.inl rfl) ⟨Nat.le_refl _, Nat.le_refl _⟩ (fun l hl o ho => sp_X2_checkLength hl ho) (fun M2 => ?_)
  refine j_aload_n (pc := 9) C dX2_arrive_9 rfl ?_
  refine j_getR (pc := 10) C dX2_arrive_10 fl_X2_20 fr_X2_2 (fun v3 => ?_)
  refine j_getR (pc := 13) C dX2_arrive_13 fl_X2_144 fr_X0_0 (fun v4 => ?_)
  refine j_iload_n (pc := 16) C dX2_arrive_16 rfl ?_
  refine j_aaload (t := 14) (pc := 17) C dX2_arrive_17 (by decide) (fun v5 => ?_)
  refine j_getI (pc := 18) C dX2_arrive_18 fl_X2_195 fi_X1_5 (fun v6 => ?_)
  refine j_bipush (pc := 21) C dX2_arrive_21 (v := 6) rfl ?_
  refine j_icmp_lt (pc := 23) C dX2_arrive_23 (tgt := 36) (by decide) (fun hc15 => ?_) (fun hc15 => ?_)
  · refine j_aload_n (pc := 36) C dX2_arrive_36 rfl ?_
    refine j_callVv (pc := 37) C rfl dX2_arrive_37 lv_X2_189 rfl (Nat.le_of_ble_eq_true rfl) (Nat.le_of_ble_eq_true rfl) (by decide) (Or.inl rfl) ⟨Nat.le_refl _, Nat.le_refl _⟩ (fun l hl o ho => sp_X2_remember hl ho) (fun M7 => ?_)
    refine j_aload_n (pc := 40) C dX2_arrive_40 rfl ?_
    refine j_getR (pc := 41) C dX2_arrive_41 fl_X2_20 fr_X2_2 (fun v8 => ?_)
    refine j_iload_n (pc := 44) C dX2_arrive_44 rfl ?_
    refine j_iload_n (pc := 45) C dX2_arrive_45 rfl ?_
    refine j_iload_n (pc := 46) C dX2_arrive_46 rfl ?_
    refine j_iload (pc := 47) C dX2_arrive_47 rfl ?_
    refine j_callVi (pc := 49) C rfl dX2_arrive_49 lv_X2_123 rfl (Nat.le_of_ble_eq_true rfl) (Nat.le_of_ble_eq_true rfl) (by decide) (Or.inl rfl) ⟨Nat.le_refl _, Nat.le_refl _⟩ (fun l hl o ho => sp_X0_addVehicle hl ho) (fun v10 M9 => ?_)
    refine j_pop (pc := 52) C dX2_arrive_52 rfl ?_
    refine j_aload_n (pc := 53) C dX2_arrive_53 rfl ?_
    refine j_getR (pc := 54) C dX2_arrive_54 fl_X2_20 fr_X2_2 (fun v11 => ?_)
    refine j_getR (pc := 57) C dX2_arrive_57 fl_X2_144 fr_X0_0 (fun v12 => ?_)
    refine j_iload_n (pc := 60) C dX2_arrive_60 rfl ?_
    refine j_aaload (t := 14) (pc := 61) C dX2_arrive_61 (by decide) (fun v13 => ?_)
    refine j_getI (pc := 62) C dX2_arrive_62 fl_X2_195 fi_X1_5 (fun v14 => ?_)
    exact j_ireturn (pc := 65) C rfl dX2_arrive_65 ⟨Nat.zero_le _, Nat.zero_le _⟩
  · exact j_throw (pc := 26) C rfl th_X2_arrive_26 (by decide) (Nat.le_of_ble_eq_true rfl) rfl ⟨Nat.le_refl _, Nat.le_refl _⟩
theorem sp_X2_arrive {l : Launch} {z : Sh9} {N : Nv9} {a0 : Nat} {a1 : Int32} {a2 : Int32} {a3 : Int32} {a4 : Int32} {M : Mem9} {o : Out9 × Mem9} (hl : l.stackTraces = false) (h : f_X2_arrive z a0 a1 a2 a3 a4 M = some o) : Sp9 l z N yX2_arrive (Cond.code yX2_arrive cX2_arrive 5 (some .int)) 7 [.ref a0, .int a1, .int a2, .int a3, .int a4] M (co9 o.1) o :=
  sp9_of (rk := 1) (own := RX2) (by decide +kernel) rfl (Or.inr (Or.inl ⟨rfl, rfl⟩)) hl (Nat.le_of_ble_eq_true rfl) (fun X C => t_X2_arrive C a0 a1 a2 a3 a4 M) h
def f_X2_loop (z : Sh9) (a0 : Nat) (a1 : Int32) (a2 : Int32) (M : Mem9) : Re9 :=
  (bv9 (iv9 z a0 2 (f_X2_checkLane z a0 a1 M)) fun M1 => (bv9 (iv9 z a0 2 (f_X2_remember z a0  M1)) fun M2 => ((rf9 z a0 2 2).bind fun v3 => (bi9 (iv9 z v3 0 (f_X0_changeLoop z v3 a1 a2 M2)) fun v5 M4 => ((rf9 z a0 2 2).bind fun v6 => (bi9 (iv9 z v6 0 (f_X0_total z v6 (8 : Int32) M4)) fun v8 M7 => (ri9 v8 M7)))))))
set_option maxRecDepth 20000 in
set_option maxHeartbeats 4000000 in
theorem t_X2_loop {z : Sh9} {N : Nv9} {X : Cx9} {out : Out9 × Mem9} (C : OK9 z N X out 3 (co9 out.1) cX2_loop RX2 7 1 []) (a0 : Nat) (a1 : Int32) (a2 : Int32) (M : Mem9) : J9 z N X out 3 0 [(0, .ref a0), (1, .int a1), (2, .int a2)] [] M (0, 0) (f_X2_loop z a0 a1 a2 M) := by
  refine j_aload_n (pc := 0) C dX2_loop_0 rfl ?_
  refine j_iload_n (pc := 1) C dX2_loop_1 rfl ?_
  refine j_callVv (pc := 2) C rfl dX2_loop_2 lv_X2_138 rfl (Nat.le_of_ble_eq_true rfl) (Nat.le_of_ble_eq_true rfl) (by decide) (Or.inl rfl) ⟨Nat.le_refl _, Nat.le_refl _⟩ (fun l hl o ho => sp_X2_checkLane hl ho) (fun M1 => ?_)
  refine j_aload_n (pc := 5) C dX2_loop_5 rfl ?_
  refine j_callVv (pc := 6) C rfl dX2_loop_6 lv_X2_189 rfl (Nat.le_of_ble_eq_true rfl) (Nat.le_of_ble_eq_true rfl) (by decide) (Or.inl rfl) ⟨Nat.le_refl _, Nat.le_refl _⟩ (fun l hl o ho => sp_X2_remember hl ho) (fun M2 => ?_)
  refine j_aload_n (pc := 9) C dX2_loop_9 rfl ?_
  refine j_getR (pc := 10) C dX2_loop_10 fl_X2_20 fr_X2_2 (fun v3 => ?_)
  refine j_iload_n (pc := 13) C dX2_loop_13 rfl ?_
  refine j_iload_n (pc := 14) C dX2_loop_14 rfl ?_
  refine j_callVi (pc := 15) C rfl dX2_loop_15 lv_X2_110 rfl (Nat.le_of_ble_eq_true rfl) (Nat.le_of_ble_eq_true rfl) (by decide) (Or.inl rfl) ⟨Nat.le_refl _, Nat.le_refl _⟩ (fun l hl o ho => sp_X0_changeLoop hl ho) (fun v5 M4 => ?_)
  refine j_pop (pc := 18) C dX2_loop_18 rfl ?_
  refine j_aload_n (pc := 19) C dX2_loop_19 rfl ?_
  refine j_getR (pc := 20) C dX2_loop_20 fl_X2_20 fr_X2_2 (fun v6 => ?_)
  refine j_bipush (pc := 23) C dX2_loop_23 (v := 8) rfl ?_
  refine j_callVi (pc := 25) C rfl dX2_loop_25 lv_X2_135 rfl (Nat.le_of_ble_eq_true rfl) (Nat.le_of_ble_eq_true rfl) (by decide) (Or.inl rfl) ⟨Nat.le_refl _, Nat.le_refl _⟩ (fun l hl o ho => sp_X0_total hl ho) (fun v8 M7 => ?_)
  exact j_ireturn (pc := 28) C rfl dX2_loop_28 ⟨Nat.zero_le _, Nat.zero_le _⟩
theorem sp_X2_loop {l : Launch} {z : Sh9} {N : Nv9} {a0 : Nat} {a1 : Int32} {a2 : Int32} {M : Mem9} {o : Out9 × Mem9} (hl : l.stackTraces = false) (h : f_X2_loop z a0 a1 a2 M = some o) : Sp9 l z N yX2_loop (Cond.code yX2_loop cX2_loop 3 (some .int)) 7 [.ref a0, .int a1, .int a2] M (co9 o.1) o :=
  sp9_of (rk := 1) (own := RX2) (by decide +kernel) rfl (Or.inr (Or.inl ⟨rfl, rfl⟩)) hl (Nat.le_of_ble_eq_true rfl) (fun X C => t_X2_loop C a0 a1 a2 M) h
def f_X2_doTurn_b116 (z : Sh9)  (s0 : Int32) (s1 : Int32) (s2 : Nat) (M : Mem9) : Re9 :=
  (bi9 (iv9 z s2 0 (f_X0_changeLoop z s2 s1 s0 M)) fun v29 M28 => (rv9 M28))
set_option maxRecDepth 20000 in
set_option maxHeartbeats 4000000 in
theorem t_X2_doTurn_b116 {z : Sh9} {N : Nv9} {X : Cx9} {out : Out9 × Mem9} (C : OK9 z N X out 3 (co9 out.1) cX2_doTurn RX2 5 0 [])  (s0 : Int32) (s1 : Int32) (s2 : Nat) (M : Mem9) : J9 z N X out 3 116 [] [.int s0, .int s1, .ref s2] M (0, 0) (f_X2_doTurn_b116 z  s0 s1 s2 M) := by
  refine j_callVi (pc := 116) C rfl dX2_doTurn_116 lv_X2_110 rfl (Nat.le_of_ble_eq_true rfl) (Nat.le_of_ble_eq_true rfl) (by decide) (Or.inl rfl) ⟨Nat.le_refl _, Nat.le_refl _⟩ (fun l hl o ho => sp_X0_changeLoop hl ho) (fun v29 M28 => ?_)
  refine j_pop (pc := 119) C dX2_doTurn_119 rfl ?_
  refine j_goto (pc := 120) C dX2_doTurn_120 (tgt := 151) (by decide) ?_
  exact j_return (pc := 151) C rfl dX2_doTurn_151 ⟨Nat.zero_le _, Nat.zero_le _⟩
def f_X2_doTurn_b89 (z : Sh9)  (s0 : Int32) (s1 : Int32) (s2 : Int32) (s3 : Int32) (s4 : Nat) (M : Mem9) : Re9 :=
  (bi9 (iv9 z s4 0 (f_X0_addVehicle z s4 s3 s2 s1 s0 M)) fun v34 M33 => (rv9 M33))
set_option maxRecDepth 20000 in
set_option maxHeartbeats 4000000 in
theorem t_X2_doTurn_b89 {z : Sh9} {N : Nv9} {X : Cx9} {out : Out9 × Mem9} (C : OK9 z N X out 3 (co9 out.1) cX2_doTurn RX2 5 0 [])  (s0 : Int32) (s1 : Int32) (s2 : Int32) (s3 : Int32) (s4 : Nat) (M : Mem9) : J9 z N X out 3 89 [] [.int s0, .int s1, .int s2, .int s3, .ref s4] M (0, 0) (f_X2_doTurn_b89 z  s0 s1 s2 s3 s4 M) := by
  refine j_callVi (pc := 89) C rfl dX2_doTurn_89 lv_X2_123 rfl (Nat.le_of_ble_eq_true rfl) (Nat.le_of_ble_eq_true rfl) (by decide) (Or.inl rfl) ⟨Nat.le_refl _, Nat.le_refl _⟩ (fun l hl o ho => sp_X0_addVehicle hl ho) (fun v34 M33 => ?_)
  refine j_pop (pc := 92) C dX2_doTurn_92 rfl ?_
  refine j_goto (pc := 93) C dX2_doTurn_93 (tgt := 151) (by decide) ?_
  exact j_return (pc := 151) C rfl dX2_doTurn_151 ⟨Nat.zero_le _, Nat.zero_le _⟩
def f_X2_doTurn_b74 (z : Sh9)  (x2 : Int32) (s0 : Int32) (s1 : Int32) (s2 : Int32) (s3 : Nat) (M : Mem9) : Re9 :=
  ((dv9 x2 (512 : Int32)).bind fun v30 => ((rm9 v30 (4 : Int32)).bind fun v31 => (if v31 = 0 then (f_X2_doTurn_b89 z  (1 : Int32) s0 s1 s2 s3 M) else (f_X2_doTurn_b89 z  (0 : Int32) s0 s1 s2 s3 M))))
set_option maxRecDepth 20000 in
set_option maxHeartbeats 4000000 in
theorem t_X2_doTurn_b74 {z : Sh9} {N : Nv9} {X : Cx9} {out : Out9 × Mem9} (C : OK9 z N X out 3 (co9 out.1) cX2_doTurn RX2 5 0 [])  (x2 : Int32) (s0 : Int32) (s1 : Int32) (s2 : Int32) (s3 : Nat) (M : Mem9) : J9 z N X out 3 74 [(2, .int x2)] [.int s0, .int s1, .int s2, .ref s3] M (0, 0) (f_X2_doTurn_b74 z  x2 s0 s1 s2 s3 M) := by
  refine j_iload_n (pc := 74) C dX2_doTurn_74 rfl ?_
  refine j_sipush (pc := 75) C dX2_doTurn_75 (v := 512) rfl ?_
  refine j_idiv (pc := 78) C dX2_doTurn_78 (fun v30 => ?_)
  refine j_iconst (pc := 79) C dX2_doTurn_79 (v := 4) rfl ?_
  refine j_irem (pc := 80) C dX2_doTurn_80 (fun v31 => ?_)
  refine j_if_ne (pc := 81) C dX2_doTurn_81 (tgt := 88) (by decide) (fun hc32 => ?_) (fun hc32 => ?_)
  · refine j_iconst (pc := 88) C dX2_doTurn_88 (v := 0) rfl ?_
    refine j_loc [] rfl ?_
    exact t_X2_doTurn_b89 C  (0 : Int32) s0 s1 s2 s3 M
  · refine j_iconst (pc := 84) C dX2_doTurn_84 (v := 1) rfl ?_
    refine j_goto (pc := 85) C dX2_doTurn_85 (tgt := 89) (by decide) ?_
    refine j_loc [] rfl ?_
    exact t_X2_doTurn_b89 C  (1 : Int32) s0 s1 s2 s3 M
def f_X2_doTurn_b44 (z : Sh9)  (x0 : Nat) (x2 : Int32) (M : Mem9) : Re9 :=
  ((rf9 z x0 2 23).bind fun v21 => ((rm9 x2 (3 : Int32)).bind fun v22 => ((dv9 x2 (4 : Int32)).bind fun v23 => ((rm9 v23 (11 : Int32)).bind fun v24 => ((dv9 x2 (64 : Int32)).bind fun v25 => ((rm9 v25 (8 : Int32)).bind fun v26 => (if v26 = 0 then (f_X2_doTurn_b74 z  x2 (1 : Int32) ((2 : Int32) + v24) v22 v21 M) else (f_X2_doTurn_b74 z  x2 (0 : Int32) ((2 : Int32) + v24) v22 v21 M))))))))
set_option maxRecDepth 20000 in
set_option maxHeartbeats 4000000 in
theorem t_X2_doTurn_b44 {z : Sh9} {N : Nv9} {X : Cx9} {out : Out9 × Mem9} (C : OK9 z N X out 3 (co9 out.1) cX2_doTurn RX2 5 0 [])  (x0 : Nat) (x2 : Int32) (M : Mem9) : J9 z N X out 3 44 [(0, .ref x0), (2, .int x2)] [] M (0, 0) (f_X2_doTurn_b44 z  x0 x2 M) := by
  refine j_aload_n (pc := 44) C dX2_doTurn_44 rfl ?_
  refine j_getR (pc := 45) C dX2_doTurn_45 fl_X2_24 fr_X2_3 (fun v21 => ?_)
  refine j_iload_n (pc := 48) C dX2_doTurn_48 rfl ?_
  refine j_iconst (pc := 49) C dX2_doTurn_49 (v := 3) rfl ?_
  refine j_irem (pc := 50) C dX2_doTurn_50 (fun v22 => ?_)
  refine j_iconst (pc := 51) C dX2_doTurn_51 (v := 2) rfl ?_
  refine j_iload_n (pc := 52) C dX2_doTurn_52 rfl ?_
  refine j_iconst (pc := 53) C dX2_doTurn_53 (v := 4) rfl ?_
  refine j_idiv (pc := 54) C dX2_doTurn_54 (fun v23 => ?_)
  refine j_bipush (pc := 55) C dX2_doTurn_55 (v := 11) rfl ?_
  refine j_irem (pc := 57) C dX2_doTurn_57 (fun v24 => ?_)
  refine j_iadd (pc := 58) C dX2_doTurn_58 ?_
  refine j_iload_n (pc := 59) C dX2_doTurn_59 rfl ?_
  refine j_bipush (pc := 60) C dX2_doTurn_60 (v := 64) rfl ?_
  refine j_idiv (pc := 62) C dX2_doTurn_62 (fun v25 => ?_)
  refine j_bipush (pc := 63) C dX2_doTurn_63 (v := 8) rfl ?_
  refine j_irem (pc := 65) C dX2_doTurn_65 (fun v26 => ?_)
  refine j_if_ne (pc := 66) C dX2_doTurn_66 (tgt := 73) (by decide) (fun hc27 => ?_) (fun hc27 => ?_)
  · refine j_iconst (pc := 73) C dX2_doTurn_73 (v := 0) rfl ?_
    refine j_loc [1] rfl ?_
    exact t_X2_doTurn_b74 C  x2 (0 : Int32) ((2 : Int32) + v24) v22 v21 M
  · refine j_iconst (pc := 69) C dX2_doTurn_69 (v := 1) rfl ?_
    refine j_goto (pc := 70) C dX2_doTurn_70 (tgt := 74) (by decide) ?_
    refine j_loc [1] rfl ?_
    exact t_X2_doTurn_b74 C  x2 (1 : Int32) ((2 : Int32) + v24) v22 v21 M
def f_X2_doTurn (z : Sh9) (a0 : Nat) (a1 : Int32) (M : Mem9) : Re9 :=
  ((dv9 a1 (8 : Int32)).bind fun v1 => ((rm9 a1 (8 : Int32)).bind fun v2 => (if v2 = (0 : Int32) then (f_X2_doTurn_b44 z  a0 v1 M) else (if v2 = (1 : Int32) then (f_X2_doTurn_b44 z  a0 v1 M) else (if v2 = (2 : Int32) then (f_X2_doTurn_b44 z  a0 v1 M) else (if v2 = (3 : Int32) then ((rf9 z a0 2 23).bind fun v6 => ((rm9 v1 (3 : Int32)).bind fun v7 => ((dv9 v1 (4 : Int32)).bind fun v8 => ((rm9 v8 (4 : Int32)).bind fun v9 => (if v9 = 0 then (f_X2_doTurn_b116 z  (1 : Int32) v7 v6 M) else (f_X2_doTurn_b116 z  (0 : Int32) v7 v6 M)))))) else (if v2 = (4 : Int32) then ((rf9 z a0 2 23).bind fun v12 => ((rm9 v1 (3 : Int32)).bind fun v13 => (bi9 (iv9 z v12 0 (f_X0_mendArm z v12 v13 M)) fun v15 M14 => (rv9 M14)))) else ((rf9 z a0 2 23).bind fun v17 => ((rm9 v1 (20 : Int32)).bind fun v18 => (bi9 (iv9 z v17 0 (f_X0_letTicksGo z v17 ((1 : Int32) + v18) M)) fun v20 M19 => (rv9 M19)))))))))))
set_option maxRecDepth 20000 in
set_option maxHeartbeats 4000000 in
theorem t_X2_doTurn {z : Sh9} {N : Nv9} {X : Cx9} {out : Out9 × Mem9} (C : OK9 z N X out 3 (co9 out.1) cX2_doTurn RX2 5 0 []) (a0 : Nat) (a1 : Int32) (M : Mem9) : J9 z N X out 3 0 [(0, .ref a0), (1, .int a1)] [] M (0, 0) (f_X2_doTurn z a0 a1 M) := by
  refine j_iload_n (pc := 0) C dX2_doTurn_0 rfl ?_
  refine j_bipush (pc := 1) C dX2_doTurn_1 (v := 8) rfl ?_
  refine j_idiv (pc := 3) C dX2_doTurn_3 (fun v1 => ?_)
  refine j_istore_n (pc := 4) C dX2_doTurn_4 (Nat.le_of_ble_eq_true rfl) (ls' := [(2, .int v1), (0, .ref a0), (1, .int a1)]) rfl ?_
  refine j_iload_n (pc := 5) C dX2_doTurn_5 rfl ?_
  refine j_bipush (pc := 6) C dX2_doTurn_6 (v := 8) rfl ?_
  refine j_irem (pc := 8) C dX2_doTurn_8 (fun v2 => ?_)
  refine j_ite (fun hc3 => ?_) (fun hc3 => ?_)
  · refine j_tsIn (pc := 9) C (0) dX2_doTurn_9 (by rw [hc3]; rfl) (by decide) (off := 35) rfl (tgt := 44) (by decide) ?_
    refine j_loc [1, 0] rfl ?_
    exact t_X2_doTurn_b44 C  a0 v1 M
  · refine j_ite (fun hc4 => ?_) (fun hc4 => ?_)
    · refine j_tsIn (pc := 9) C (1) dX2_doTurn_9 (by rw [hc4]; rfl) (by decide) (off := 35) rfl (tgt := 44) (by decide) ?_
      refine j_loc [1, 0] rfl ?_
      exact t_X2_doTurn_b44 C  a0 v1 M
    · refine j_ite (fun hc5 => ?_) (fun hc5 => ?_)
      · refine j_tsIn (pc := 9) C (2) dX2_doTurn_9 (by rw [hc5]; rfl) (by decide) (off := 35) rfl (tgt := 44) (by decide) ?_
        refine j_loc [1, 0] rfl ?_
        exact t_X2_doTurn_b44 C  a0 v1 M
      · refine j_ite (fun hc11 => ?_) (fun hc11 => ?_)
        · refine j_tsIn (pc := 9) C (3) dX2_doTurn_9 (by rw [hc11]; rfl) (by decide) (off := 87) rfl (tgt := 96) (by decide) ?_
          refine j_aload_n (pc := 96) C dX2_doTurn_96 rfl ?_
          refine j_getR (pc := 97) C dX2_doTurn_97 fl_X2_24 fr_X2_3 (fun v6 => ?_)
          refine j_iload_n (pc := 100) C dX2_doTurn_100 rfl ?_
          refine j_iconst (pc := 101) C dX2_doTurn_101 (v := 3) rfl ?_
          refine j_irem (pc := 102) C dX2_doTurn_102 (fun v7 => ?_)
          refine j_iload_n (pc := 103) C dX2_doTurn_103 rfl ?_
          refine j_iconst (pc := 104) C dX2_doTurn_104 (v := 4) rfl ?_
          refine j_idiv (pc := 105) C dX2_doTurn_105 (fun v8 => ?_)
          refine j_iconst (pc := 106) C dX2_doTurn_106 (v := 4) rfl ?_
          refine j_irem (pc := 107) C dX2_doTurn_107 (fun v9 => ?_)
          refine j_if_ne (pc := 108) C dX2_doTurn_108 (tgt := 115) (by decide) (fun hc10 => ?_) (fun hc10 => ?_)
          · refine j_iconst (pc := 115) C dX2_doTurn_115 (v := 0) rfl ?_
            refine j_loc [] rfl ?_
            exact t_X2_doTurn_b116 C  (0 : Int32) v7 v6 M
          · refine j_iconst (pc := 111) C dX2_doTurn_111 (v := 1) rfl ?_
            refine j_goto (pc := 112) C dX2_doTurn_112 (tgt := 116) (by decide) ?_
            refine j_loc [] rfl ?_
            exact t_X2_doTurn_b116 C  (1 : Int32) v7 v6 M
        · refine j_ite (fun hc16 => ?_) (fun hc16 => ?_)
          · refine j_tsIn (pc := 9) C (4) dX2_doTurn_9 (by rw [hc16]; rfl) (by decide) (off := 114) rfl (tgt := 123) (by decide) ?_
            refine j_aload_n (pc := 123) C dX2_doTurn_123 rfl ?_
            refine j_getR (pc := 124) C dX2_doTurn_124 fl_X2_24 fr_X2_3 (fun v12 => ?_)
            refine j_iload_n (pc := 127) C dX2_doTurn_127 rfl ?_
            refine j_iconst (pc := 128) C dX2_doTurn_128 (v := 3) rfl ?_
            refine j_irem (pc := 129) C dX2_doTurn_129 (fun v13 => ?_)
            refine j_callVi (pc := 130) C rfl dX2_doTurn_130 lv_X2_114 rfl (Nat.le_of_ble_eq_true rfl) (Nat.le_of_ble_eq_true rfl) (by decide) (Or.inl rfl) ⟨Nat.le_refl _, Nat.le_refl _⟩ (fun l hl o ho => sp_X0_mendArm hl ho) (fun v15 M14 => ?_)
            refine j_pop (pc := 133) C dX2_doTurn_133 rfl ?_
            refine j_goto (pc := 134) C dX2_doTurn_134 (tgt := 151) (by decide) ?_
            exact j_return (pc := 151) C rfl dX2_doTurn_151 ⟨Nat.zero_le _, Nat.zero_le _⟩
          · refine j_tsOut (pc := 9) C dX2_doTurn_9 (by have qhc3 := ne9 (k := 0) hc3 rfl; have qhc4 := ne9 (k := 1) hc4 rfl; have qhc5 := ne9 (k := 2) hc5 rfl; have qhc11 := ne9 (k := 3) hc11 rfl; have qhc16 := ne9 (k := 4) hc16 rfl; omega) (tgt := 137) (by decide) ?_
            refine j_aload_n (pc := 137) C dX2_doTurn_137 rfl ?_
            refine j_getR (pc := 138) C dX2_doTurn_138 fl_X2_24 fr_X2_3 (fun v17 => ?_)
            refine j_iconst (pc := 141) C dX2_doTurn_141 (v := 1) rfl ?_
            refine j_iload_n (pc := 142) C dX2_doTurn_142 rfl ?_
            refine j_bipush (pc := 143) C dX2_doTurn_143 (v := 20) rfl ?_
            refine j_irem (pc := 145) C dX2_doTurn_145 (fun v18 => ?_)
            refine j_iadd (pc := 146) C dX2_doTurn_146 ?_
            refine j_callVi (pc := 147) C rfl dX2_doTurn_147 lv_X2_120 rfl (Nat.le_of_ble_eq_true rfl) (Nat.le_of_ble_eq_true rfl) (by decide) (Or.inl rfl) ⟨Nat.le_refl _, Nat.le_refl _⟩ (fun l hl o ho => sp_X0_letTicksGo hl ho) (fun v20 M19 => ?_)
            refine j_pop (pc := 150) C dX2_doTurn_150 rfl ?_
            exact j_return (pc := 151) C rfl dX2_doTurn_151 ⟨Nat.zero_le _, Nat.zero_le _⟩
theorem sp_X2_doTurn {l : Launch} {z : Sh9} {N : Nv9} {a0 : Nat} {a1 : Int32} {M : Mem9} {o : Out9 × Mem9} (hl : l.stackTraces = false) (h : f_X2_doTurn z a0 a1 M = some o) : Sp9 l z N yX2_doTurn (Cond.code yX2_doTurn cX2_doTurn 3 none) 5 [.ref a0, .int a1] M (co9 o.1) o :=
  sp9_of (rk := 0) (own := RX2) (by decide +kernel) rfl (Or.inl ⟨rfl, rfl⟩) hl (Nat.le_of_ble_eq_true rfl) (fun X C => t_X2_doTurn C a0 a1 M) h
def f_X2_simulate_b39 (z : Sh9) (r39 : Nat → Int32 → Int64 → Int32 → Mem9 → Re9) (x0 : Nat) (x3 : Int32) (x4 : Int64) (x6 : Int32) (M : Mem9) : Re9 :=
  (if x3 ≤ x6 then ((rf9 z x0 2 23).bind fun v6 => (bi9 (iv9 z v6 0 (f_X0_total z v6 (6 : Int32) M)) fun v8 M7 => ((rf9 z x0 2 2).bind fun v9 => (bi9 (iv9 z v9 0 (f_X0_total z v9 (6 : Int32) M7)) fun v11 M10 => (nm9 (v8 - v11) fun (y12 : Int32) => ((rf9 z x0 2 23).bind fun v13 => (bi9 (iv9 z v13 0 (f_X0_total z v13 (5 : Int32) M10)) fun v15 M14 => ((rf9 z x0 2 2).bind fun v16 => (bi9 (iv9 z v16 0 (f_X0_total z v16 (5 : Int32) M14)) fun v18 M17 => (nm9 (v15 - v18) fun (y19 : Int32) => ((rf9 z x0 2 23).bind fun v20 => (bi9 (iv9 z v20 0 (f_X0_total z v20 (3 : Int32) M17)) fun v22 M21 => ((rf9 z x0 2 2).bind fun v23 => (bi9 (iv9 z v23 0 (f_X0_total z v23 (3 : Int32) M21)) fun v25 M24 => (nm9 (v22 - v25) fun (y26 : Int32) => (ri9 ((((10000 : Int32) * y12) + ((100 : Int32) * y19)) + (if (99 : Int32) < y26 then (99 : Int32) else y26)) M24)))))))))))))))) else (nm9 ((x4 * (6364136223846793005 : Int64)) + (1442695040888963407 : Int64)) fun (y27 : Int64) => (bv9 (iv9 z x0 2 (f_X2_doTurn z x0 (Int64.toInt32 (UInt64.toInt64 (Int64.toUInt64 y27 >>> (Int64.toUInt64 (Int32.toInt64 (33 : Int32)) &&& Int64.toUInt64 63)))) M)) fun M28 => (r39 x0 x3 y27 (x6 + (1 : Int32)) M28))))
set_option maxRecDepth 20000 in
set_option maxHeartbeats 4000000 in
theorem t_X2_simulate_b39 {z : Sh9} {N : Nv9} {X : Cx9} {out : Out9 × Mem9} (C : OK9 z N X out 9 (co9 out.1) cX2_simulate RX2 6 1 []) {r39 : Nat → Int32 → Int64 → Int32 → Mem9 → Re9} (h39 : ∀ (x0 : Nat) (x3 : Int32) (x4 : Int64) (x6 : Int32) (M : Mem9), J9 z N X out 9 39 [(0, .ref x0), (3, .int x3), (4, .long x4), (6, .int x6)] [] M (0, 0) (r39 x0 x3 x4 x6 M)) (x0 : Nat) (x3 : Int32) (x4 : Int64) (x6 : Int32) (M : Mem9) : J9 z N X out 9 39 [(0, .ref x0), (3, .int x3), (4, .long x4), (6, .int x6)] [] M (0, 0) (f_X2_simulate_b39 z r39 x0 x3 x4 x6 M) := by
  refine j_iload (pc := 39) C dX2_simulate_39 rfl ?_
  refine j_iload_n (pc := 41) C dX2_simulate_41 rfl ?_
  refine j_icmp_ge (pc := 42) C dX2_simulate_42 (tgt := 73) (by decide) (fun hc29 => ?_) (fun hc29 => ?_)
  · refine j_aload_n (pc := 73) C dX2_simulate_73 rfl ?_
    refine j_getR (pc := 74) C dX2_simulate_74 fl_X2_24 fr_X2_3 (fun v6 => ?_)
    refine j_bipush (pc := 77) C dX2_simulate_77 (v := 6) rfl ?_
    refine j_callVi (pc := 79) C rfl dX2_simulate_79 lv_X2_135 rfl (Nat.le_of_ble_eq_true rfl) (Nat.le_of_ble_eq_true rfl) (by decide) (Or.inl rfl) ⟨Nat.le_refl _, Nat.le_refl _⟩ (fun l hl o ho => sp_X0_total hl ho) (fun v8 M7 => ?_)
    refine j_aload_n (pc := 82) C dX2_simulate_82 rfl ?_
    refine j_getR (pc := 83) C dX2_simulate_83 fl_X2_20 fr_X2_2 (fun v9 => ?_)
    refine j_bipush (pc := 86) C dX2_simulate_86 (v := 6) rfl ?_
    refine j_callVi (pc := 88) C rfl dX2_simulate_88 lv_X2_135 rfl (Nat.le_of_ble_eq_true rfl) (Nat.le_of_ble_eq_true rfl) (by decide) (Or.inl rfl) ⟨Nat.le_refl _, Nat.le_refl _⟩ (fun l hl o ho => sp_X0_total hl ho) (fun v11 M10 => ?_)
    refine j_isub (pc := 91) C dX2_simulate_91 ?_
    refine j_nm (st' := fun x9 : Int32 => .int x9 :: []) rfl (fun y12 => ?_)
    refine j_istore (pc := 92) C dX2_simulate_92 (Nat.le_of_ble_eq_true rfl) (ls' := [(6, .int y12), (0, .ref x0), (3, .int x3), (4, .long x4)]) rfl ?_
    refine j_aload_n (pc := 94) C dX2_simulate_94 rfl ?_
    refine j_getR (pc := 95) C dX2_simulate_95 fl_X2_24 fr_X2_3 (fun v13 => ?_)
    refine j_iconst (pc := 98) C dX2_simulate_98 (v := 5) rfl ?_
    refine j_callVi (pc := 99) C rfl dX2_simulate_99 lv_X2_135 rfl (Nat.le_of_ble_eq_true rfl) (Nat.le_of_ble_eq_true rfl) (by decide) (Or.inl rfl) ⟨Nat.le_refl _, Nat.le_refl _⟩ (fun l hl o ho => sp_X0_total hl ho) (fun v15 M14 => ?_)
    refine j_aload_n (pc := 102) C dX2_simulate_102 rfl ?_
    refine j_getR (pc := 103) C dX2_simulate_103 fl_X2_20 fr_X2_2 (fun v16 => ?_)
    refine j_iconst (pc := 106) C dX2_simulate_106 (v := 5) rfl ?_
    refine j_callVi (pc := 107) C rfl dX2_simulate_107 lv_X2_135 rfl (Nat.le_of_ble_eq_true rfl) (Nat.le_of_ble_eq_true rfl) (by decide) (Or.inl rfl) ⟨Nat.le_refl _, Nat.le_refl _⟩ (fun l hl o ho => sp_X0_total hl ho) (fun v18 M17 => ?_)
    refine j_isub (pc := 110) C dX2_simulate_110 ?_
    refine j_nm (st' := fun x9 : Int32 => .int x9 :: []) rfl (fun y19 => ?_)
    refine j_istore (pc := 111) C dX2_simulate_111 (Nat.le_of_ble_eq_true rfl) (ls' := [(7, .int y19), (6, .int y12), (0, .ref x0), (3, .int x3), (4, .long x4)]) rfl ?_
    refine j_aload_n (pc := 113) C dX2_simulate_113 rfl ?_
    refine j_getR (pc := 114) C dX2_simulate_114 fl_X2_24 fr_X2_3 (fun v20 => ?_)
    refine j_iconst (pc := 117) C dX2_simulate_117 (v := 3) rfl ?_
    refine j_callVi (pc := 118) C rfl dX2_simulate_118 lv_X2_135 rfl (Nat.le_of_ble_eq_true rfl) (Nat.le_of_ble_eq_true rfl) (by decide) (Or.inl rfl) ⟨Nat.le_refl _, Nat.le_refl _⟩ (fun l hl o ho => sp_X0_total hl ho) (fun v22 M21 => ?_)
    refine j_aload_n (pc := 121) C dX2_simulate_121 rfl ?_
    refine j_getR (pc := 122) C dX2_simulate_122 fl_X2_20 fr_X2_2 (fun v23 => ?_)
    refine j_iconst (pc := 125) C dX2_simulate_125 (v := 3) rfl ?_
    refine j_callVi (pc := 126) C rfl dX2_simulate_126 lv_X2_135 rfl (Nat.le_of_ble_eq_true rfl) (Nat.le_of_ble_eq_true rfl) (by decide) (Or.inl rfl) ⟨Nat.le_refl _, Nat.le_refl _⟩ (fun l hl o ho => sp_X0_total hl ho) (fun v25 M24 => ?_)
    refine j_isub (pc := 129) C dX2_simulate_129 ?_
    refine j_nm (st' := fun x9 : Int32 => .int x9 :: []) rfl (fun y26 => ?_)
    refine j_istore (pc := 130) C dX2_simulate_130 (Nat.le_of_ble_eq_true rfl) (ls' := [(8, .int y26), (7, .int y19), (6, .int y12), (0, .ref x0), (3, .int x3), (4, .long x4)]) rfl ?_
    refine j_sipush (pc := 132) C dX2_simulate_132 (v := 10000) rfl ?_
    refine j_iload (pc := 135) C dX2_simulate_135 rfl ?_
    refine j_imul (pc := 137) C dX2_simulate_137 ?_
    refine j_bipush (pc := 138) C dX2_simulate_138 (v := 100) rfl ?_
    refine j_iload (pc := 140) C dX2_simulate_140 rfl ?_
    refine j_imul (pc := 142) C dX2_simulate_142 ?_
    refine j_iadd (pc := 143) C dX2_simulate_143 ?_
    refine j_iload (pc := 144) C dX2_simulate_144 rfl ?_
    refine j_bipush (pc := 146) C dX2_simulate_146 (v := 99) rfl ?_
    refine j_min (pc := 148) C dX2_simulate_148 w9_722 w9_358 w9_38 w9_359 (by decide) (Nat.le_of_ble_eq_true rfl) ⟨Nat.zero_le _, Nat.zero_le _⟩ ?_
    refine j_iadd (pc := 151) C dX2_simulate_151 ?_
    exact j_ireturn (pc := 152) C rfl dX2_simulate_152 ⟨Nat.zero_le _, Nat.zero_le _⟩
  · refine j_lload (pc := 45) C dX2_simulate_45 rfl ?_
    refine j_ldc2 (pc := 47) C dX2_simulate_47 (v := 6364136223846793005) w9_716 ?_
    refine j_lmul (pc := 50) C dX2_simulate_50 ?_
    refine j_ldc2 (pc := 51) C dX2_simulate_51 (v := 1442695040888963407) w9_717 ?_
    refine j_ladd (pc := 54) C dX2_simulate_54 ?_
    refine j_nm (st' := fun x9 : Int64 => .long x9 :: []) rfl (fun y27 => ?_)
    refine j_lstore (pc := 55) C dX2_simulate_55 (Nat.le_of_ble_eq_true rfl) (ls' := [(4, .long y27), (0, .ref x0), (3, .int x3), (6, .int x6)]) rfl ?_
    refine j_aload_n (pc := 57) C dX2_simulate_57 rfl ?_
    refine j_lload (pc := 58) C dX2_simulate_58 rfl ?_
    refine j_bipush (pc := 60) C dX2_simulate_60 (v := 33) rfl ?_
    refine j_lushr (pc := 62) C dX2_simulate_62 (v := (UInt64.toInt64 (Int64.toUInt64 y27 >>> (Int64.toUInt64 (Int32.toInt64 (33 : Int32)) &&& Int64.toUInt64 63)))) rfl ?_
    refine j_l2i (pc := 63) C dX2_simulate_63 ?_
    refine j_callVv (pc := 64) C rfl dX2_simulate_64 lv_X2_264 rfl (Nat.le_of_ble_eq_true rfl) (Nat.le_of_ble_eq_true rfl) (by decide) (Or.inl rfl) ⟨Nat.le_refl _, Nat.le_refl _⟩ (fun l hl o ho => sp_X2_doTurn hl ho) (fun M28 => ?_)
    refine j_iinc (pc := 67) C dX2_simulate_67 rfl (v := (x6 + (1 : Int32))) rfl (Nat.le_of_ble_eq_true rfl) (ls' := [(6, .int (x6 + (1 : Int32))), (4, .long y27), (0, .ref x0), (3, .int x3)]) rfl ?_
    refine j_goto (pc := 70) C dX2_simulate_70 (tgt := 39) (by decide) ?_
    refine j_loc [2, 3, 1, 0] rfl ?_
    exact h39 x0 x3 y27 (x6 + (1 : Int32)) M28
theorem t_X2_simulate_l39 {z : Sh9} {N : Nv9} {X : Cx9} {out : Out9 × Mem9} (C : OK9 z N X out 9 (co9 out.1) cX2_simulate RX2 6 1 [])  : ∀ (n : Nat) (x0 : Nat) (x3 : Int32) (x4 : Int64) (x6 : Int32) (M : Mem9), J9 z N X out 9 39 [(0, .ref x0), (3, .int x3), (4, .long x4), (6, .int x6)] [] M (0, 0) (fx9 (fun _ _ _ _ _ => none) (f_X2_simulate_b39 z ) n x0 x3 x4 x6 M) := by
  intro n
  induction n with
  | zero => intro x0 x3 x4 x6 M; exact j_none
  | succ n ih => intro x0 x3 x4 x6 M; exact t_X2_simulate_b39 C  ih x0 x3 x4 x6 M
def f_X2_simulate (z : Sh9) (a0 : Nat) (a1 : Int64) (a2 : Int32) (M : Mem9) : Re9 :=
  (if a2 < (1 : Int32) then (tx9 "java/lang/IllegalArgumentException" M) else (if a2 ≤ (60 : Int32) then ((rf9 z a0 2 23).bind fun v1 => ((rf9 z a0 2 2).bind fun v2 => (bv9 (iv9 z v1 0 (f_X0_copyFrom z v1 v2 M)) fun M3 => (fx9 (fun _ _ _ _ _ => none) (f_X2_simulate_b39 z ) FU9 a0 a2 a1 (0 : Int32) M3)))) else (tx9 "java/lang/IllegalArgumentException" M)))
set_option maxRecDepth 20000 in
set_option maxHeartbeats 4000000 in
theorem t_X2_simulate {z : Sh9} {N : Nv9} {X : Cx9} {out : Out9 × Mem9} (C : OK9 z N X out 9 (co9 out.1) cX2_simulate RX2 6 1 []) (a0 : Nat) (a1 : Int64) (a2 : Int32) (M : Mem9) : J9 z N X out 9 0 [(0, .ref a0), (1, .long a1), (3, .int a2)] [] M (0, 0) (f_X2_simulate z a0 a1 a2 M) := by
  refine j_iload_n (pc := 0) C dX2_simulate_0 rfl ?_
  refine j_iconst (pc := 1) C dX2_simulate_1 (v := 1) rfl ?_
  refine j_icmp_lt (pc := 2) C dX2_simulate_2 (tgt := 11) (by decide) (fun hc5 => ?_) (fun hc5 => ?_)
  · exact j_throw (pc := 11) C rfl th_X2_simulate_11 (by decide) (Nat.le_of_ble_eq_true rfl) rfl ⟨Nat.le_refl _, Nat.le_refl _⟩
  · refine j_iload_n (pc := 5) C dX2_simulate_5 rfl ?_
    refine j_bipush (pc := 6) C dX2_simulate_6 (v := 60) rfl ?_
    refine j_icmp_le (pc := 8) C dX2_simulate_8 (tgt := 22) (by decide) (fun hc4 => ?_) (fun hc4 => ?_)
    · refine j_aload_n (pc := 22) C dX2_simulate_22 rfl ?_
      refine j_getR (pc := 23) C dX2_simulate_23 fl_X2_24 fr_X2_3 (fun v1 => ?_)
      refine j_aload_n (pc := 26) C dX2_simulate_26 rfl ?_
      refine j_getR (pc := 27) C dX2_simulate_27 fl_X2_20 fr_X2_2 (fun v2 => ?_)
      refine j_callVv (pc := 30) C rfl dX2_simulate_30 lv_X2_220 rfl (Nat.le_of_ble_eq_true rfl) (Nat.le_of_ble_eq_true rfl) (by decide) (Or.inl rfl) ⟨Nat.le_refl _, Nat.le_refl _⟩ (fun l hl o ho => sp_X0_copyFrom hl ho) (fun M3 => ?_)
      refine j_lload_n (pc := 33) C dX2_simulate_33 rfl ?_
      refine j_lstore (pc := 34) C dX2_simulate_34 (Nat.le_of_ble_eq_true rfl) (ls' := [(4, .long a1), (0, .ref a0), (1, .long a1), (3, .int a2)]) rfl ?_
      refine j_iconst (pc := 36) C dX2_simulate_36 (v := 0) rfl ?_
      refine j_istore (pc := 37) C dX2_simulate_37 (Nat.le_of_ble_eq_true rfl) (ls' := [(6, .int (0 : Int32)), (4, .long a1), (0, .ref a0), (1, .long a1), (3, .int a2)]) rfl ?_
      refine j_loc [2, 4, 1, 0] rfl ?_
      exact t_X2_simulate_l39 C  FU9 a0 a2 a1 (0 : Int32) M3
    · exact j_throw (pc := 11) C rfl th_X2_simulate_11 (by decide) (Nat.le_of_ble_eq_true rfl) rfl ⟨Nat.le_refl _, Nat.le_refl _⟩
theorem sp_X2_simulate {l : Launch} {z : Sh9} {N : Nv9} {a0 : Nat} {a1 : Int64} {a2 : Int32} {M : Mem9} {o : Out9 × Mem9} (hl : l.stackTraces = false) (h : f_X2_simulate z a0 a1 a2 M = some o) : Sp9 l z N yX2_simulate (Cond.code yX2_simulate cX2_simulate 9 (some .int)) 6 [.ref a0, .long a1, .int a2] M (co9 o.1) o :=
  sp9_of (rk := 1) (own := RX2) (by decide +kernel) rfl (Or.inr (Or.inl ⟨rfl, rfl⟩)) hl (Nat.le_of_ble_eq_true rfl) (fun X C => t_X2_simulate C a0 a1 a2 M) h
def f_X2_doGroup_b208 (z : Sh9)  (s0 : Int32) (s1 : Int32) (s2 : Nat) (M : Mem9) : Re9 :=
  (bi9 (iv9 z s2 0 (f_X0_changeLoop z s2 s1 s0 M)) fun v87 M86 => (if v87 = 0 then (rz9 (0 : Int32) M86) else (rz9 (1 : Int32) M86)))
set_option maxRecDepth 20000 in
set_option maxHeartbeats 4000000 in
theorem t_X2_doGroup_b208 {z : Sh9} {N : Nv9} {X : Cx9} {out : Out9 × Mem9} (C : OK9 z N X out 6 (co9 out.1) cX2_doGroup RX2 5 2 [])  (s0 : Int32) (s1 : Int32) (s2 : Nat) (M : Mem9) : J9 z N X out 6 208 [] [.int s0, .int s1, .ref s2] M (0, 0) (f_X2_doGroup_b208 z  s0 s1 s2 M) := by
  refine j_callVi (pc := 208) C rfl dX2_doGroup_208 lv_X2_110 rfl (Nat.le_of_ble_eq_true rfl) (Nat.le_of_ble_eq_true rfl) (by decide) (Or.inl rfl) ⟨Nat.le_refl _, Nat.le_refl _⟩ (fun l hl o ho => sp_X0_changeLoop hl ho) (fun v87 M86 => ?_)
  refine j_if_eq (pc := 211) C dX2_doGroup_211 (tgt := 218) (by decide) (fun hc88 => ?_) (fun hc88 => ?_)
  · refine j_iconst (pc := 218) C dX2_doGroup_218 (v := 0) rfl ?_
    exact j_zreturn (pc := 219) C rfl dX2_doGroup_219 ⟨Nat.zero_le _, Nat.zero_le _⟩
  · refine j_iconst (pc := 214) C dX2_doGroup_214 (v := 1) rfl ?_
    refine j_goto (pc := 215) C dX2_doGroup_215 (tgt := 219) (by decide) ?_
    exact j_zreturn (pc := 219) C rfl dX2_doGroup_219 ⟨Nat.zero_le _, Nat.zero_le _⟩
def f_X2_doGroup_b134 (z : Sh9)  (s0 : Int32) (s1 : Int32) (s2 : Int32) (s3 : Int32) (s4 : Nat) (M : Mem9) : Re9 :=
  (bi9 (iv9 z s4 0 (f_X0_addVehicle z s4 s3 s2 s1 s0 M)) fun v90 M89 => (if v90 = 0 then (rz9 (0 : Int32) M89) else (rz9 (1 : Int32) M89)))
set_option maxRecDepth 20000 in
set_option maxHeartbeats 4000000 in
theorem t_X2_doGroup_b134 {z : Sh9} {N : Nv9} {X : Cx9} {out : Out9 × Mem9} (C : OK9 z N X out 6 (co9 out.1) cX2_doGroup RX2 5 2 [])  (s0 : Int32) (s1 : Int32) (s2 : Int32) (s3 : Int32) (s4 : Nat) (M : Mem9) : J9 z N X out 6 134 [] [.int s0, .int s1, .int s2, .int s3, .ref s4] M (0, 0) (f_X2_doGroup_b134 z  s0 s1 s2 s3 s4 M) := by
  refine j_callVi (pc := 134) C rfl dX2_doGroup_134 lv_X2_123 rfl (Nat.le_of_ble_eq_true rfl) (Nat.le_of_ble_eq_true rfl) (by decide) (Or.inl rfl) ⟨Nat.le_refl _, Nat.le_refl _⟩ (fun l hl o ho => sp_X0_addVehicle hl ho) (fun v90 M89 => ?_)
  refine j_if_eq (pc := 137) C dX2_doGroup_137 (tgt := 144) (by decide) (fun hc91 => ?_) (fun hc91 => ?_)
  · refine j_iconst (pc := 144) C dX2_doGroup_144 (v := 0) rfl ?_
    exact j_zreturn (pc := 145) C rfl dX2_doGroup_145 ⟨Nat.zero_le _, Nat.zero_le _⟩
  · refine j_iconst (pc := 140) C dX2_doGroup_140 (v := 1) rfl ?_
    refine j_goto (pc := 141) C dX2_doGroup_141 (tgt := 145) (by decide) ?_
    exact j_zreturn (pc := 145) C rfl dX2_doGroup_145 ⟨Nat.zero_le _, Nat.zero_le _⟩
def f_X2_doGroup_b123 (z : Sh9)  (x5 : Int32) (s0 : Int32) (s1 : Int32) (s2 : Int32) (s3 : Nat) (M : Mem9) : Re9 :=
  (if x5 < (2 : Int32) then (f_X2_doGroup_b134 z  (0 : Int32) s0 s1 s2 s3 M) else (f_X2_doGroup_b134 z  (1 : Int32) s0 s1 s2 s3 M))
set_option maxRecDepth 20000 in
set_option maxHeartbeats 4000000 in
theorem t_X2_doGroup_b123 {z : Sh9} {N : Nv9} {X : Cx9} {out : Out9 × Mem9} (C : OK9 z N X out 6 (co9 out.1) cX2_doGroup RX2 5 2 [])  (x5 : Int32) (s0 : Int32) (s1 : Int32) (s2 : Int32) (s3 : Nat) (M : Mem9) : J9 z N X out 6 123 [(5, .int x5)] [.int s0, .int s1, .int s2, .ref s3] M (0, 0) (f_X2_doGroup_b123 z  x5 s0 s1 s2 s3 M) := by
  refine j_iload (pc := 123) C dX2_doGroup_123 rfl ?_
  refine j_iconst (pc := 125) C dX2_doGroup_125 (v := 2) rfl ?_
  refine j_icmp_lt (pc := 126) C dX2_doGroup_126 (tgt := 133) (by decide) (fun hc85 => ?_) (fun hc85 => ?_)
  · refine j_iconst (pc := 133) C dX2_doGroup_133 (v := 0) rfl ?_
    refine j_loc [] rfl ?_
    exact t_X2_doGroup_b134 C  (0 : Int32) s0 s1 s2 s3 M
  · refine j_iconst (pc := 129) C dX2_doGroup_129 (v := 1) rfl ?_
    refine j_goto (pc := 130) C dX2_doGroup_130 (tgt := 134) (by decide) ?_
    refine j_loc [] rfl ?_
    exact t_X2_doGroup_b134 C  (1 : Int32) s0 s1 s2 s3 M
def f_X2_doGroup_b118 (z : Sh9)  (x5 : Int32) (s0 : Int32) (s1 : Int32) (s2 : Nat) (M : Mem9) : Re9 :=
  (f_X2_doGroup_b123 z  x5 (1 : Int32) s0 s1 s2 M)
set_option maxRecDepth 20000 in
set_option maxHeartbeats 4000000 in
theorem t_X2_doGroup_b118 {z : Sh9} {N : Nv9} {X : Cx9} {out : Out9 × Mem9} (C : OK9 z N X out 6 (co9 out.1) cX2_doGroup RX2 5 2 [])  (x5 : Int32) (s0 : Int32) (s1 : Int32) (s2 : Nat) (M : Mem9) : J9 z N X out 6 118 [(5, .int x5)] [.int s0, .int s1, .ref s2] M (0, 0) (f_X2_doGroup_b118 z  x5 s0 s1 s2 M) := by
  refine j_iconst (pc := 118) C dX2_doGroup_118 (v := 1) rfl ?_
  refine j_goto (pc := 119) C dX2_doGroup_119 (tgt := 123) (by decide) ?_
  exact t_X2_doGroup_b123 C  x5 (1 : Int32) s0 s1 s2 M
def f_X2_doGroup (z : Sh9) (a0 : Nat) (a1 : Int32) (M : Mem9) : Re9 :=
  ((dv9 a1 (1000 : Int32)).bind fun v1 => ((rm9 v1 (10 : Int32)).bind fun v2 => ((dv9 a1 (100 : Int32)).bind fun v3 => ((rm9 v3 (10 : Int32)).bind fun v4 => ((dv9 a1 (10 : Int32)).bind fun v5 => ((rm9 v5 (10 : Int32)).bind fun v6 => ((rm9 a1 (10 : Int32)).bind fun v7 => ((dv9 a1 (10000 : Int32)).bind fun v8 => (if v8 = (1 : Int32) then (if (3 : Int32) < v7 then (rz9 (0 : Int32) M) else ((rf9 z a0 2 23).bind fun v9 => (if v7 = (1 : Int32) then (f_X2_doGroup_b118 z  v7 (((10 : Int32) * v4) + v6) v2 v9 M) else (if v7 = (3 : Int32) then (f_X2_doGroup_b118 z  v7 (((10 : Int32) * v4) + v6) v2 v9 M) else (f_X2_doGroup_b123 z  v7 (0 : Int32) (((10 : Int32) * v4) + v6) v2 v9 M))))) else (if v8 = (2 : Int32) then (if v2 = 0 then (if v4 = 0 then ((rf9 z a0 2 23).bind fun v14 => (bi9 (iv9 z v14 0 (f_X0_letTicksGo z v14 (((10 : Int32) * v6) + v7) M)) fun v16 M15 => (if v16 = 0 then (rz9 (0 : Int32) M15) else (rz9 (1 : Int32) M15)))) else (rz9 (0 : Int32) M)) else (rz9 (0 : Int32) M)) else (if v8 = (3 : Int32) then (if (1 : Int32) < v4 then (rz9 (0 : Int32) M) else (if v6 = 0 then (if v7 = 0 then ((rf9 z a0 2 23).bind fun v21 => (if v4 = (1 : Int32) then (f_X2_doGroup_b208 z  (1 : Int32) v2 v21 M) else (f_X2_doGroup_b208 z  (0 : Int32) v2 v21 M))) else (rz9 (0 : Int32) M)) else (rz9 (0 : Int32) M))) else (if v8 = (4 : Int32) then (if v4 = 0 then (if v6 = 0 then (if v7 = 0 then ((rf9 z a0 2 23).bind fun v27 => (bi9 (iv9 z v27 0 (f_X0_mendArm z v27 v2 M)) fun v29 M28 => (if v29 = 0 then (rz9 (0 : Int32) M28) else (rz9 (1 : Int32) M28)))) else (rz9 (0 : Int32) M)) else (rz9 (0 : Int32) M)) else (rz9 (0 : Int32) M)) else (if v8 = (5 : Int32) then (if v7 = 0 then ((rf9 z a0 2 23).bind fun v35 => (bi9 (iv9 z v35 0 (f_X0_changeSetting z v35 v2 (((10 : Int32) * v4) + v6) M)) fun v37 M36 => (if v37 = 0 then (rz9 (0 : Int32) M36) else (rz9 (1 : Int32) M36)))) else (rz9 (0 : Int32) M)) else (if v8 = (6 : Int32) then (if v6 = 0 then (if v7 = 0 then ((rf9 z a0 2 23).bind fun v41 => (bi9 (iv9 z v41 0 (f_X0_hasLane z v41 v2 M)) fun v43 M42 => (if v43 = 0 then (rz9 (0 : Int32) M42) else ((rf9 z a0 2 23).bind fun v44 => ((rf9 z v44 0 1).bind fun v45 => ((la9 z 14 v45 v2).bind fun v46 => ((gf9 z M42 v46 1 6).bind fun v47 => (if v47 = v4 then (rz9 (1 : Int32) M42) else (rz9 (0 : Int32) M42))))))))) else (rz9 (0 : Int32) M)) else (rz9 (0 : Int32) M)) else (if v8 = (7 : Int32) then (if v4 = 0 then (if v6 = 0 then ((rf9 z a0 2 23).bind fun v53 => (bi9 (iv9 z v53 0 (f_X0_hasLane z v53 v2 M)) fun v55 M54 => (if v55 = 0 then (rz9 (0 : Int32) M54) else ((rf9 z a0 2 23).bind fun v56 => ((rf9 z v56 0 1).bind fun v57 => ((la9 z 14 v57 v2).bind fun v58 => ((gf9 z M54 v58 1 5).bind fun v59 => (if v7 < v59 then (rz9 (0 : Int32) M54) else (rz9 (1 : Int32) M54))))))))) else (rz9 (0 : Int32) M)) else (rz9 (0 : Int32) M)) else (if v8 = (8 : Int32) then (if v2 = 0 then (if v4 = 0 then ((rf9 z a0 2 23).bind fun v65 => (bi9 (iv9 z v65 0 (f_X0_total z v65 (5 : Int32) M)) fun v67 M66 => (if (((10 : Int32) * v6) + v7) < v67 then (rz9 (0 : Int32) M66) else (rz9 (1 : Int32) M66)))) else (rz9 (0 : Int32) M)) else (rz9 (0 : Int32) M)) else (if v8 = (9 : Int32) then (if v4 = 0 then (if v6 = 0 then ((rf9 z a0 2 23).bind fun v72 => (bi9 (iv9 z v72 0 (f_X0_hasLane z v72 v2 M)) fun v74 M73 => (if v74 = 0 then (rz9 (0 : Int32) M73) else ((rf9 z a0 2 23).bind fun v75 => ((rf9 z v75 0 1).bind fun v76 => ((la9 z 14 v76 v2).bind fun v77 => (bi9 (iv9 z v77 1 (f_X1_reason z v77  M73)) fun v79 M78 => (if v79 = v7 then (rz9 (1 : Int32) M78) else (rz9 (0 : Int32) M78))))))))) else (rz9 (0 : Int32) M)) else (rz9 (0 : Int32) M)) else (rz9 (0 : Int32) M))))))))))))))))))
set_option maxRecDepth 20000 in
set_option maxHeartbeats 4000000 in
theorem t_X2_doGroup {z : Sh9} {N : Nv9} {X : Cx9} {out : Out9 × Mem9} (C : OK9 z N X out 6 (co9 out.1) cX2_doGroup RX2 5 2 []) (a0 : Nat) (a1 : Int32) (M : Mem9) : J9 z N X out 6 0 [(0, .ref a0), (1, .int a1)] [] M (0, 0) (f_X2_doGroup z a0 a1 M) := by
  refine j_iload_n (pc := 0) C dX2_doGroup_0 rfl ?_
  refine j_sipush (pc := 1) C dX2_doGroup_1 (v := 1000) rfl ?_
  refine j_idiv (pc := 4) C dX2_doGroup_4 (fun v1 => ?_)
  refine j_bipush (pc := 5) C dX2_doGroup_5 (v := 10) rfl ?_
  refine j_irem (pc := 7) C dX2_doGroup_7 (fun v2 => ?_)
  refine j_istore_n (pc := 8) C dX2_doGroup_8 (Nat.le_of_ble_eq_true rfl) (ls' := [(2, .int v2), (0, .ref a0), (1, .int a1)]) rfl ?_
  refine j_iload_n (pc := 9) C dX2_doGroup_9 rfl ?_
  refine j_bipush (pc := 10) C dX2_doGroup_10 (v := 100) rfl ?_
  refine j_idiv (pc := 12) C dX2_doGroup_12 (fun v3 => ?_)
  refine j_bipush (pc := 13) C dX2_doGroup_13 (v := 10) rfl ?_
  refine j_irem (pc := 15) C dX2_doGroup_15 (fun v4 => ?_)
  refine j_istore_n (pc := 16) C dX2_doGroup_16 (Nat.le_of_ble_eq_true rfl) (ls' := [(3, .int v4), (2, .int v2), (0, .ref a0), (1, .int a1)]) rfl ?_
  refine j_iload_n (pc := 17) C dX2_doGroup_17 rfl ?_
  refine j_bipush (pc := 18) C dX2_doGroup_18 (v := 10) rfl ?_
  refine j_idiv (pc := 20) C dX2_doGroup_20 (fun v5 => ?_)
  refine j_bipush (pc := 21) C dX2_doGroup_21 (v := 10) rfl ?_
  refine j_irem (pc := 23) C dX2_doGroup_23 (fun v6 => ?_)
  refine j_istore (pc := 24) C dX2_doGroup_24 (Nat.le_of_ble_eq_true rfl) (ls' := [(4, .int v6), (3, .int v4), (2, .int v2), (0, .ref a0), (1, .int a1)]) rfl ?_
  refine j_iload_n (pc := 26) C dX2_doGroup_26 rfl ?_
  refine j_bipush (pc := 27) C dX2_doGroup_27 (v := 10) rfl ?_
  refine j_irem (pc := 29) C dX2_doGroup_29 (fun v7 => ?_)
  refine j_istore (pc := 30) C dX2_doGroup_30 (Nat.le_of_ble_eq_true rfl) (ls' := [(5, .int v7), (4, .int v6), (3, .int v4), (2, .int v2), (0, .ref a0), (1, .int a1)]) rfl ?_
  refine j_iload_n (pc := 32) C dX2_doGroup_32 rfl ?_
  refine j_sipush (pc := 33) C dX2_doGroup_33 (v := 10000) rfl ?_
  refine j_idiv (pc := 36) C dX2_doGroup_36 (fun v8 => ?_)
  refine j_ite (fun hc13 => ?_) (fun hc13 => ?_)
  · refine j_tsIn (pc := 37) C (1) dX2_doGroup_37 (by rw [hc13]; rfl) (by decide) (off := 51) rfl (tgt := 88) (by decide) ?_
    refine j_iload (pc := 88) C dX2_doGroup_88 rfl ?_
    refine j_iconst (pc := 90) C dX2_doGroup_90 (v := 3) rfl ?_
    refine j_icmp_gt (pc := 91) C dX2_doGroup_91 (tgt := 144) (by decide) (fun hc12 => ?_) (fun hc12 => ?_)
    · refine j_iconst (pc := 144) C dX2_doGroup_144 (v := 0) rfl ?_
      exact j_zreturn (pc := 145) C rfl dX2_doGroup_145 ⟨Nat.zero_le _, Nat.zero_le _⟩
    · refine j_aload_n (pc := 94) C dX2_doGroup_94 rfl ?_
      refine j_getR (pc := 95) C dX2_doGroup_95 fl_X2_24 fr_X2_3 (fun v9 => ?_)
      refine j_iload_n (pc := 98) C dX2_doGroup_98 rfl ?_
      refine j_bipush (pc := 99) C dX2_doGroup_99 (v := 10) rfl ?_
      refine j_iload_n (pc := 101) C dX2_doGroup_101 rfl ?_
      refine j_imul (pc := 102) C dX2_doGroup_102 ?_
      refine j_iload (pc := 103) C dX2_doGroup_103 rfl ?_
      refine j_iadd (pc := 105) C dX2_doGroup_105 ?_
      refine j_iload (pc := 106) C dX2_doGroup_106 rfl ?_
      refine j_iconst (pc := 108) C dX2_doGroup_108 (v := 1) rfl ?_
      refine j_icmp_eq (pc := 109) C dX2_doGroup_109 (tgt := 118) (by decide) (fun hc11 => ?_) (fun hc11 => ?_)
      · refine j_loc [0] rfl ?_
        exact t_X2_doGroup_b118 C  v7 (((10 : Int32) * v4) + v6) v2 v9 M
      · refine j_iload (pc := 112) C dX2_doGroup_112 rfl ?_
        refine j_iconst (pc := 114) C dX2_doGroup_114 (v := 3) rfl ?_
        refine j_icmp_ne (pc := 115) C dX2_doGroup_115 (tgt := 122) (by decide) (fun hc10 => ?_) (fun hc10 => ?_)
        · refine j_iconst (pc := 122) C dX2_doGroup_122 (v := 0) rfl ?_
          refine j_loc [0] rfl ?_
          exact t_X2_doGroup_b123 C  v7 (0 : Int32) (((10 : Int32) * v4) + v6) v2 v9 M
        · refine j_loc [0] rfl ?_
          exact t_X2_doGroup_b118 C  v7 (((10 : Int32) * v4) + v6) v2 v9 M
  · refine j_ite (fun hc20 => ?_) (fun hc20 => ?_)
    · refine j_tsIn (pc := 37) C (2) dX2_doGroup_37 (by rw [hc20]; rfl) (by decide) (off := 109) rfl (tgt := 146) (by decide) ?_
      refine j_iload_n (pc := 146) C dX2_doGroup_146 rfl ?_
      refine j_if_ne (pc := 147) C dX2_doGroup_147 (tgt := 176) (by decide) (fun hc19 => ?_) (fun hc19 => ?_)
      · refine j_iconst (pc := 176) C dX2_doGroup_176 (v := 0) rfl ?_
        exact j_zreturn (pc := 177) C rfl dX2_doGroup_177 ⟨Nat.zero_le _, Nat.zero_le _⟩
      · refine j_iload_n (pc := 150) C dX2_doGroup_150 rfl ?_
        refine j_if_ne (pc := 151) C dX2_doGroup_151 (tgt := 176) (by decide) (fun hc18 => ?_) (fun hc18 => ?_)
        · refine j_iconst (pc := 176) C dX2_doGroup_176 (v := 0) rfl ?_
          exact j_zreturn (pc := 177) C rfl dX2_doGroup_177 ⟨Nat.zero_le _, Nat.zero_le _⟩
        · refine j_aload_n (pc := 154) C dX2_doGroup_154 rfl ?_
          refine j_getR (pc := 155) C dX2_doGroup_155 fl_X2_24 fr_X2_3 (fun v14 => ?_)
          refine j_bipush (pc := 158) C dX2_doGroup_158 (v := 10) rfl ?_
          refine j_iload (pc := 160) C dX2_doGroup_160 rfl ?_
          refine j_imul (pc := 162) C dX2_doGroup_162 ?_
          refine j_iload (pc := 163) C dX2_doGroup_163 rfl ?_
          refine j_iadd (pc := 165) C dX2_doGroup_165 ?_
          refine j_callVi (pc := 166) C rfl dX2_doGroup_166 lv_X2_120 rfl (Nat.le_of_ble_eq_true rfl) (Nat.le_of_ble_eq_true rfl) (by decide) (Or.inl rfl) ⟨Nat.le_refl _, Nat.le_refl _⟩ (fun l hl o ho => sp_X0_letTicksGo hl ho) (fun v16 M15 => ?_)
          refine j_if_eq (pc := 169) C dX2_doGroup_169 (tgt := 176) (by decide) (fun hc17 => ?_) (fun hc17 => ?_)
          · refine j_iconst (pc := 176) C dX2_doGroup_176 (v := 0) rfl ?_
            exact j_zreturn (pc := 177) C rfl dX2_doGroup_177 ⟨Nat.zero_le _, Nat.zero_le _⟩
          · refine j_iconst (pc := 172) C dX2_doGroup_172 (v := 1) rfl ?_
            refine j_goto (pc := 173) C dX2_doGroup_173 (tgt := 177) (by decide) ?_
            exact j_zreturn (pc := 177) C rfl dX2_doGroup_177 ⟨Nat.zero_le _, Nat.zero_le _⟩
    · refine j_ite (fun hc26 => ?_) (fun hc26 => ?_)
      · refine j_tsIn (pc := 37) C (3) dX2_doGroup_37 (by rw [hc26]; rfl) (by decide) (off := 141) rfl (tgt := 178) (by decide) ?_
        refine j_iload_n (pc := 178) C dX2_doGroup_178 rfl ?_
        refine j_iconst (pc := 179) C dX2_doGroup_179 (v := 1) rfl ?_
        refine j_icmp_gt (pc := 180) C dX2_doGroup_180 (tgt := 218) (by decide) (fun hc25 => ?_) (fun hc25 => ?_)
        · refine j_iconst (pc := 218) C dX2_doGroup_218 (v := 0) rfl ?_
          exact j_zreturn (pc := 219) C rfl dX2_doGroup_219 ⟨Nat.zero_le _, Nat.zero_le _⟩
        · refine j_iload (pc := 183) C dX2_doGroup_183 rfl ?_
          refine j_if_ne (pc := 185) C dX2_doGroup_185 (tgt := 218) (by decide) (fun hc24 => ?_) (fun hc24 => ?_)
          · refine j_iconst (pc := 218) C dX2_doGroup_218 (v := 0) rfl ?_
            exact j_zreturn (pc := 219) C rfl dX2_doGroup_219 ⟨Nat.zero_le _, Nat.zero_le _⟩
          · refine j_iload (pc := 188) C dX2_doGroup_188 rfl ?_
            refine j_if_ne (pc := 190) C dX2_doGroup_190 (tgt := 218) (by decide) (fun hc23 => ?_) (fun hc23 => ?_)
            · refine j_iconst (pc := 218) C dX2_doGroup_218 (v := 0) rfl ?_
              exact j_zreturn (pc := 219) C rfl dX2_doGroup_219 ⟨Nat.zero_le _, Nat.zero_le _⟩
            · refine j_aload_n (pc := 193) C dX2_doGroup_193 rfl ?_
              refine j_getR (pc := 194) C dX2_doGroup_194 fl_X2_24 fr_X2_3 (fun v21 => ?_)
              refine j_iload_n (pc := 197) C dX2_doGroup_197 rfl ?_
              refine j_iload_n (pc := 198) C dX2_doGroup_198 rfl ?_
              refine j_iconst (pc := 199) C dX2_doGroup_199 (v := 1) rfl ?_
              refine j_icmp_ne (pc := 200) C dX2_doGroup_200 (tgt := 207) (by decide) (fun hc22 => ?_) (fun hc22 => ?_)
              · refine j_iconst (pc := 207) C dX2_doGroup_207 (v := 0) rfl ?_
                refine j_loc [] rfl ?_
                exact t_X2_doGroup_b208 C  (0 : Int32) v2 v21 M
              · refine j_iconst (pc := 203) C dX2_doGroup_203 (v := 1) rfl ?_
                refine j_goto (pc := 204) C dX2_doGroup_204 (tgt := 208) (by decide) ?_
                refine j_loc [] rfl ?_
                exact t_X2_doGroup_b208 C  (1 : Int32) v2 v21 M
      · refine j_ite (fun hc34 => ?_) (fun hc34 => ?_)
        · refine j_tsIn (pc := 37) C (4) dX2_doGroup_37 (by rw [hc34]; rfl) (by decide) (off := 183) rfl (tgt := 220) (by decide) ?_
          refine j_iload_n (pc := 220) C dX2_doGroup_220 rfl ?_
          refine j_if_ne (pc := 221) C dX2_doGroup_221 (tgt := 249) (by decide) (fun hc33 => ?_) (fun hc33 => ?_)
          · refine j_iconst (pc := 249) C dX2_doGroup_249 (v := 0) rfl ?_
            exact j_zreturn (pc := 250) C rfl dX2_doGroup_250 ⟨Nat.zero_le _, Nat.zero_le _⟩
          · refine j_iload (pc := 224) C dX2_doGroup_224 rfl ?_
            refine j_if_ne (pc := 226) C dX2_doGroup_226 (tgt := 249) (by decide) (fun hc32 => ?_) (fun hc32 => ?_)
            · refine j_iconst (pc := 249) C dX2_doGroup_249 (v := 0) rfl ?_
              exact j_zreturn (pc := 250) C rfl dX2_doGroup_250 ⟨Nat.zero_le _, Nat.zero_le _⟩
            · refine j_iload (pc := 229) C dX2_doGroup_229 rfl ?_
              refine j_if_ne (pc := 231) C dX2_doGroup_231 (tgt := 249) (by decide) (fun hc31 => ?_) (fun hc31 => ?_)
              · refine j_iconst (pc := 249) C dX2_doGroup_249 (v := 0) rfl ?_
                exact j_zreturn (pc := 250) C rfl dX2_doGroup_250 ⟨Nat.zero_le _, Nat.zero_le _⟩
              · refine j_aload_n (pc := 234) C dX2_doGroup_234 rfl ?_
                refine j_getR (pc := 235) C dX2_doGroup_235 fl_X2_24 fr_X2_3 (fun v27 => ?_)
                refine j_iload_n (pc := 238) C dX2_doGroup_238 rfl ?_
                refine j_callVi (pc := 239) C rfl dX2_doGroup_239 lv_X2_114 rfl (Nat.le_of_ble_eq_true rfl) (Nat.le_of_ble_eq_true rfl) (by decide) (Or.inl rfl) ⟨Nat.le_refl _, Nat.le_refl _⟩ (fun l hl o ho => sp_X0_mendArm hl ho) (fun v29 M28 => ?_)
                refine j_if_eq (pc := 242) C dX2_doGroup_242 (tgt := 249) (by decide) (fun hc30 => ?_) (fun hc30 => ?_)
                · refine j_iconst (pc := 249) C dX2_doGroup_249 (v := 0) rfl ?_
                  exact j_zreturn (pc := 250) C rfl dX2_doGroup_250 ⟨Nat.zero_le _, Nat.zero_le _⟩
                · refine j_iconst (pc := 245) C dX2_doGroup_245 (v := 1) rfl ?_
                  refine j_goto (pc := 246) C dX2_doGroup_246 (tgt := 250) (by decide) ?_
                  exact j_zreturn (pc := 250) C rfl dX2_doGroup_250 ⟨Nat.zero_le _, Nat.zero_le _⟩
        · refine j_ite (fun hc40 => ?_) (fun hc40 => ?_)
          · refine j_tsIn (pc := 37) C (5) dX2_doGroup_37 (by rw [hc40]; rfl) (by decide) (off := 214) rfl (tgt := 251) (by decide) ?_
            refine j_iload (pc := 251) C dX2_doGroup_251 rfl ?_
            refine j_if_ne (pc := 253) C dX2_doGroup_253 (tgt := 278) (by decide) (fun hc39 => ?_) (fun hc39 => ?_)
            · refine j_iconst (pc := 278) C dX2_doGroup_278 (v := 0) rfl ?_
              exact j_zreturn (pc := 279) C rfl dX2_doGroup_279 ⟨Nat.zero_le _, Nat.zero_le _⟩
            · refine j_aload_n (pc := 256) C dX2_doGroup_256 rfl ?_
              refine j_getR (pc := 257) C dX2_doGroup_257 fl_X2_24 fr_X2_3 (fun v35 => ?_)
              refine j_iload_n (pc := 260) C dX2_doGroup_260 rfl ?_
              refine j_bipush (pc := 261) C dX2_doGroup_261 (v := 10) rfl ?_
              refine j_iload_n (pc := 263) C dX2_doGroup_263 rfl ?_
              refine j_imul (pc := 264) C dX2_doGroup_264 ?_
              refine j_iload (pc := 265) C dX2_doGroup_265 rfl ?_
              refine j_iadd (pc := 267) C dX2_doGroup_267 ?_
              refine j_callVi (pc := 268) C rfl dX2_doGroup_268 lv_X2_215 rfl (Nat.le_of_ble_eq_true rfl) (Nat.le_of_ble_eq_true rfl) (by decide) (Or.inl rfl) ⟨Nat.le_refl _, Nat.le_refl _⟩ (fun l hl o ho => sp_X0_changeSetting hl ho) (fun v37 M36 => ?_)
              refine j_if_eq (pc := 271) C dX2_doGroup_271 (tgt := 278) (by decide) (fun hc38 => ?_) (fun hc38 => ?_)
              · refine j_iconst (pc := 278) C dX2_doGroup_278 (v := 0) rfl ?_
                exact j_zreturn (pc := 279) C rfl dX2_doGroup_279 ⟨Nat.zero_le _, Nat.zero_le _⟩
              · refine j_iconst (pc := 274) C dX2_doGroup_274 (v := 1) rfl ?_
                refine j_goto (pc := 275) C dX2_doGroup_275 (tgt := 279) (by decide) ?_
                exact j_zreturn (pc := 279) C rfl dX2_doGroup_279 ⟨Nat.zero_le _, Nat.zero_le _⟩
          · refine j_ite (fun hc52 => ?_) (fun hc52 => ?_)
            · refine j_tsIn (pc := 37) C (6) dX2_doGroup_37 (by rw [hc52]; rfl) (by decide) (off := 243) rfl (tgt := 280) (by decide) ?_
              refine j_iload (pc := 280) C dX2_doGroup_280 rfl ?_
              refine j_if_ne (pc := 282) C dX2_doGroup_282 (tgt := 321) (by decide) (fun hc51 => ?_) (fun hc51 => ?_)
              · refine j_iconst (pc := 321) C dX2_doGroup_321 (v := 0) rfl ?_
                exact j_zreturn (pc := 322) C rfl dX2_doGroup_322 ⟨Nat.zero_le _, Nat.zero_le _⟩
              · refine j_iload (pc := 285) C dX2_doGroup_285 rfl ?_
                refine j_if_ne (pc := 287) C dX2_doGroup_287 (tgt := 321) (by decide) (fun hc50 => ?_) (fun hc50 => ?_)
                · refine j_iconst (pc := 321) C dX2_doGroup_321 (v := 0) rfl ?_
                  exact j_zreturn (pc := 322) C rfl dX2_doGroup_322 ⟨Nat.zero_le _, Nat.zero_le _⟩
                · refine j_aload_n (pc := 290) C dX2_doGroup_290 rfl ?_
                  refine j_getR (pc := 291) C dX2_doGroup_291 fl_X2_24 fr_X2_3 (fun v41 => ?_)
                  refine j_iload_n (pc := 294) C dX2_doGroup_294 rfl ?_
                  refine j_callVi (pc := 295) C rfl dX2_doGroup_295 lv_X2_172 rfl (Nat.le_of_ble_eq_true rfl) (Nat.le_of_ble_eq_true rfl) (by decide) (Or.inl rfl) ⟨Nat.le_refl _, Nat.le_refl _⟩ (fun l hl o ho => sp_X0_hasLane hl ho) (fun v43 M42 => ?_)
                  refine j_if_eq (pc := 298) C dX2_doGroup_298 (tgt := 321) (by decide) (fun hc49 => ?_) (fun hc49 => ?_)
                  · refine j_iconst (pc := 321) C dX2_doGroup_321 (v := 0) rfl ?_
                    exact j_zreturn (pc := 322) C rfl dX2_doGroup_322 ⟨Nat.zero_le _, Nat.zero_le _⟩
                  · refine j_aload_n (pc := 301) C dX2_doGroup_301 rfl ?_
                    refine j_getR (pc := 302) C dX2_doGroup_302 fl_X2_24 fr_X2_3 (fun v44 => ?_)
                    refine j_getR (pc := 305) C dX2_doGroup_305 fl_X2_144 fr_X0_0 (fun v45 => ?_)
                    refine j_iload_n (pc := 308) C dX2_doGroup_308 rfl ?_
                    refine j_aaload (t := 14) (pc := 309) C dX2_doGroup_309 (by decide) (fun v46 => ?_)
                    refine j_getI (pc := 310) C dX2_doGroup_310 fl_X2_205 fi_X1_6 (fun v47 => ?_)
                    refine j_iload_n (pc := 313) C dX2_doGroup_313 rfl ?_
                    refine j_icmp_ne (pc := 314) C dX2_doGroup_314 (tgt := 321) (by decide) (fun hc48 => ?_) (fun hc48 => ?_)
                    · refine j_iconst (pc := 321) C dX2_doGroup_321 (v := 0) rfl ?_
                      exact j_zreturn (pc := 322) C rfl dX2_doGroup_322 ⟨Nat.zero_le _, Nat.zero_le _⟩
                    · refine j_iconst (pc := 317) C dX2_doGroup_317 (v := 1) rfl ?_
                      refine j_goto (pc := 318) C dX2_doGroup_318 (tgt := 322) (by decide) ?_
                      exact j_zreturn (pc := 322) C rfl dX2_doGroup_322 ⟨Nat.zero_le _, Nat.zero_le _⟩
            · refine j_ite (fun hc64 => ?_) (fun hc64 => ?_)
              · refine j_tsIn (pc := 37) C (7) dX2_doGroup_37 (by rw [hc64]; rfl) (by decide) (off := 286) rfl (tgt := 323) (by decide) ?_
                refine j_iload_n (pc := 323) C dX2_doGroup_323 rfl ?_
                refine j_if_ne (pc := 324) C dX2_doGroup_324 (tgt := 364) (by decide) (fun hc63 => ?_) (fun hc63 => ?_)
                · refine j_iconst (pc := 364) C dX2_doGroup_364 (v := 0) rfl ?_
                  exact j_zreturn (pc := 365) C rfl dX2_doGroup_365 ⟨Nat.zero_le _, Nat.zero_le _⟩
                · refine j_iload (pc := 327) C dX2_doGroup_327 rfl ?_
                  refine j_if_ne (pc := 329) C dX2_doGroup_329 (tgt := 364) (by decide) (fun hc62 => ?_) (fun hc62 => ?_)
                  · refine j_iconst (pc := 364) C dX2_doGroup_364 (v := 0) rfl ?_
                    exact j_zreturn (pc := 365) C rfl dX2_doGroup_365 ⟨Nat.zero_le _, Nat.zero_le _⟩
                  · refine j_aload_n (pc := 332) C dX2_doGroup_332 rfl ?_
                    refine j_getR (pc := 333) C dX2_doGroup_333 fl_X2_24 fr_X2_3 (fun v53 => ?_)
                    refine j_iload_n (pc := 336) C dX2_doGroup_336 rfl ?_
                    refine j_callVi (pc := 337) C rfl dX2_doGroup_337 lv_X2_172 rfl (Nat.le_of_ble_eq_true rfl) (Nat.le_of_ble_eq_true rfl) (by decide) (Or.inl rfl) ⟨Nat.le_refl _, Nat.le_refl _⟩ (fun l hl o ho => sp_X0_hasLane hl ho) (fun v55 M54 => ?_)
                    refine j_if_eq (pc := 340) C dX2_doGroup_340 (tgt := 364) (by decide) (fun hc61 => ?_) (fun hc61 => ?_)
                    · refine j_iconst (pc := 364) C dX2_doGroup_364 (v := 0) rfl ?_
                      exact j_zreturn (pc := 365) C rfl dX2_doGroup_365 ⟨Nat.zero_le _, Nat.zero_le _⟩
                    · refine j_aload_n (pc := 343) C dX2_doGroup_343 rfl ?_
                      refine j_getR (pc := 344) C dX2_doGroup_344 fl_X2_24 fr_X2_3 (fun v56 => ?_)
                      refine j_getR (pc := 347) C dX2_doGroup_347 fl_X2_144 fr_X0_0 (fun v57 => ?_)
                      refine j_iload_n (pc := 350) C dX2_doGroup_350 rfl ?_
                      refine j_aaload (t := 14) (pc := 351) C dX2_doGroup_351 (by decide) (fun v58 => ?_)
                      refine j_getI (pc := 352) C dX2_doGroup_352 fl_X2_195 fi_X1_5 (fun v59 => ?_)
                      refine j_iload (pc := 355) C dX2_doGroup_355 rfl ?_
                      refine j_icmp_gt (pc := 357) C dX2_doGroup_357 (tgt := 364) (by decide) (fun hc60 => ?_) (fun hc60 => ?_)
                      · refine j_iconst (pc := 364) C dX2_doGroup_364 (v := 0) rfl ?_
                        exact j_zreturn (pc := 365) C rfl dX2_doGroup_365 ⟨Nat.zero_le _, Nat.zero_le _⟩
                      · refine j_iconst (pc := 360) C dX2_doGroup_360 (v := 1) rfl ?_
                        refine j_goto (pc := 361) C dX2_doGroup_361 (tgt := 365) (by decide) ?_
                        exact j_zreturn (pc := 365) C rfl dX2_doGroup_365 ⟨Nat.zero_le _, Nat.zero_le _⟩
              · refine j_ite (fun hc71 => ?_) (fun hc71 => ?_)
                · refine j_tsIn (pc := 37) C (8) dX2_doGroup_37 (by rw [hc71]; rfl) (by decide) (off := 329) rfl (tgt := 366) (by decide) ?_
                  refine j_iload_n (pc := 366) C dX2_doGroup_366 rfl ?_
                  refine j_if_ne (pc := 367) C dX2_doGroup_367 (tgt := 397) (by decide) (fun hc70 => ?_) (fun hc70 => ?_)
                  · refine j_iconst (pc := 397) C dX2_doGroup_397 (v := 0) rfl ?_
                    exact j_zreturn (pc := 398) C rfl dX2_doGroup_398 ⟨Nat.zero_le _, Nat.zero_le _⟩
                  · refine j_iload_n (pc := 370) C dX2_doGroup_370 rfl ?_
                    refine j_if_ne (pc := 371) C dX2_doGroup_371 (tgt := 397) (by decide) (fun hc69 => ?_) (fun hc69 => ?_)
                    · refine j_iconst (pc := 397) C dX2_doGroup_397 (v := 0) rfl ?_
                      exact j_zreturn (pc := 398) C rfl dX2_doGroup_398 ⟨Nat.zero_le _, Nat.zero_le _⟩
                    · refine j_aload_n (pc := 374) C dX2_doGroup_374 rfl ?_
                      refine j_getR (pc := 375) C dX2_doGroup_375 fl_X2_24 fr_X2_3 (fun v65 => ?_)
                      refine j_iconst (pc := 378) C dX2_doGroup_378 (v := 5) rfl ?_
                      refine j_callVi (pc := 379) C rfl dX2_doGroup_379 lv_X2_135 rfl (Nat.le_of_ble_eq_true rfl) (Nat.le_of_ble_eq_true rfl) (by decide) (Or.inl rfl) ⟨Nat.le_refl _, Nat.le_refl _⟩ (fun l hl o ho => sp_X0_total hl ho) (fun v67 M66 => ?_)
                      refine j_bipush (pc := 382) C dX2_doGroup_382 (v := 10) rfl ?_
                      refine j_iload (pc := 384) C dX2_doGroup_384 rfl ?_
                      refine j_imul (pc := 386) C dX2_doGroup_386 ?_
                      refine j_iload (pc := 387) C dX2_doGroup_387 rfl ?_
                      refine j_iadd (pc := 389) C dX2_doGroup_389 ?_
                      refine j_icmp_gt (pc := 390) C dX2_doGroup_390 (tgt := 397) (by decide) (fun hc68 => ?_) (fun hc68 => ?_)
                      · refine j_iconst (pc := 397) C dX2_doGroup_397 (v := 0) rfl ?_
                        exact j_zreturn (pc := 398) C rfl dX2_doGroup_398 ⟨Nat.zero_le _, Nat.zero_le _⟩
                      · refine j_iconst (pc := 393) C dX2_doGroup_393 (v := 1) rfl ?_
                        refine j_goto (pc := 394) C dX2_doGroup_394 (tgt := 398) (by decide) ?_
                        exact j_zreturn (pc := 398) C rfl dX2_doGroup_398 ⟨Nat.zero_le _, Nat.zero_le _⟩
                · refine j_ite (fun hc84 => ?_) (fun hc84 => ?_)
                  · refine j_tsIn (pc := 37) C (9) dX2_doGroup_37 (by rw [hc84]; rfl) (by decide) (off := 362) rfl (tgt := 399) (by decide) ?_
                    refine j_iload_n (pc := 399) C dX2_doGroup_399 rfl ?_
                    refine j_if_ne (pc := 400) C dX2_doGroup_400 (tgt := 440) (by decide) (fun hc83 => ?_) (fun hc83 => ?_)
                    · refine j_iconst (pc := 440) C dX2_doGroup_440 (v := 0) rfl ?_
                      exact j_zreturn (pc := 441) C rfl dX2_doGroup_441 ⟨Nat.zero_le _, Nat.zero_le _⟩
                    · refine j_iload (pc := 403) C dX2_doGroup_403 rfl ?_
                      refine j_if_ne (pc := 405) C dX2_doGroup_405 (tgt := 440) (by decide) (fun hc82 => ?_) (fun hc82 => ?_)
                      · refine j_iconst (pc := 440) C dX2_doGroup_440 (v := 0) rfl ?_
                        exact j_zreturn (pc := 441) C rfl dX2_doGroup_441 ⟨Nat.zero_le _, Nat.zero_le _⟩
                      · refine j_aload_n (pc := 408) C dX2_doGroup_408 rfl ?_
                        refine j_getR (pc := 409) C dX2_doGroup_409 fl_X2_24 fr_X2_3 (fun v72 => ?_)
                        refine j_iload_n (pc := 412) C dX2_doGroup_412 rfl ?_
                        refine j_callVi (pc := 413) C rfl dX2_doGroup_413 lv_X2_172 rfl (Nat.le_of_ble_eq_true rfl) (Nat.le_of_ble_eq_true rfl) (by decide) (Or.inl rfl) ⟨Nat.le_refl _, Nat.le_refl _⟩ (fun l hl o ho => sp_X0_hasLane hl ho) (fun v74 M73 => ?_)
                        refine j_if_eq (pc := 416) C dX2_doGroup_416 (tgt := 440) (by decide) (fun hc81 => ?_) (fun hc81 => ?_)
                        · refine j_iconst (pc := 440) C dX2_doGroup_440 (v := 0) rfl ?_
                          exact j_zreturn (pc := 441) C rfl dX2_doGroup_441 ⟨Nat.zero_le _, Nat.zero_le _⟩
                        · refine j_aload_n (pc := 419) C dX2_doGroup_419 rfl ?_
                          refine j_getR (pc := 420) C dX2_doGroup_420 fl_X2_24 fr_X2_3 (fun v75 => ?_)
                          refine j_getR (pc := 423) C dX2_doGroup_423 fl_X2_144 fr_X0_0 (fun v76 => ?_)
                          refine j_iload_n (pc := 426) C dX2_doGroup_426 rfl ?_
                          refine j_aaload (t := 14) (pc := 427) C dX2_doGroup_427 (by decide) (fun v77 => ?_)
                          refine j_callVi (pc := 428) C rfl dX2_doGroup_428 lv_X2_163 rfl (Nat.le_of_ble_eq_true rfl) (Nat.le_of_ble_eq_true rfl) (by decide) (Or.inl rfl) ⟨Nat.le_refl _, Nat.le_refl _⟩ (fun l hl o ho => sp_X1_reason hl ho) (fun v79 M78 => ?_)
                          refine j_iload (pc := 431) C dX2_doGroup_431 rfl ?_
                          refine j_icmp_ne (pc := 433) C dX2_doGroup_433 (tgt := 440) (by decide) (fun hc80 => ?_) (fun hc80 => ?_)
                          · refine j_iconst (pc := 440) C dX2_doGroup_440 (v := 0) rfl ?_
                            exact j_zreturn (pc := 441) C rfl dX2_doGroup_441 ⟨Nat.zero_le _, Nat.zero_le _⟩
                          · refine j_iconst (pc := 436) C dX2_doGroup_436 (v := 1) rfl ?_
                            refine j_goto (pc := 437) C dX2_doGroup_437 (tgt := 441) (by decide) ?_
                            exact j_zreturn (pc := 441) C rfl dX2_doGroup_441 ⟨Nat.zero_le _, Nat.zero_le _⟩
                  · refine j_tsOut (pc := 37) C dX2_doGroup_37 (by have qhc13 := ne9 (k := 1) hc13 rfl; have qhc20 := ne9 (k := 2) hc20 rfl; have qhc26 := ne9 (k := 3) hc26 rfl; have qhc34 := ne9 (k := 4) hc34 rfl; have qhc40 := ne9 (k := 5) hc40 rfl; have qhc52 := ne9 (k := 6) hc52 rfl; have qhc64 := ne9 (k := 7) hc64 rfl; have qhc71 := ne9 (k := 8) hc71 rfl; have qhc84 := ne9 (k := 9) hc84 rfl; omega) (tgt := 442) (by decide) ?_
                    refine j_iconst (pc := 442) C dX2_doGroup_442 (v := 0) rfl ?_
                    exact j_zreturn (pc := 443) C rfl dX2_doGroup_443 ⟨Nat.zero_le _, Nat.zero_le _⟩
theorem sp_X2_doGroup {l : Launch} {z : Sh9} {N : Nv9} {a0 : Nat} {a1 : Int32} {M : Mem9} {o : Out9 × Mem9} (hl : l.stackTraces = false) (h : f_X2_doGroup z a0 a1 M = some o) : Sp9 l z N yX2_doGroup (Cond.code yX2_doGroup cX2_doGroup 6 (some .boolean)) 5 [.ref a0, .int a1] M (co9 o.1) o :=
  sp9_of (rk := 2) (own := RX2) (by decide +kernel) rfl (Or.inr (Or.inr (Or.inl ⟨rfl, rfl⟩))) hl (Nat.le_of_ble_eq_true rfl) (fun X C => t_X2_doGroup C a0 a1 M) h
def f_X2_withoutGroups_b5 (z : Sh9) (r5 : Int32 → Int64 → Int32 → Mem9 → Re9) (x2 : Int32) (x3 : Int64) (x5 : Int32) (M : Mem9) : Re9 :=
  (if x2 ≤ x5 then (rj9 x3 M) else ((dl9 x3 (100000 : Int64)).bind fun v1 => (r5 x2 v1 (x5 + (1 : Int32)) M)))
set_option maxRecDepth 20000 in
set_option maxHeartbeats 4000000 in
theorem t_X2_withoutGroups_b5 {z : Sh9} {N : Nv9} {X : Cx9} {out : Out9 × Mem9} (C : OK9 z N X out 6 (co9 out.1) cX2_withoutGroups RX2 0 3 []) {r5 : Int32 → Int64 → Int32 → Mem9 → Re9} (h5 : ∀ (x2 : Int32) (x3 : Int64) (x5 : Int32) (M : Mem9), J9 z N X out 6 5 [(2, .int x2), (3, .long x3), (5, .int x5)] [] M (0, 0) (r5 x2 x3 x5 M)) (x2 : Int32) (x3 : Int64) (x5 : Int32) (M : Mem9) : J9 z N X out 6 5 [(2, .int x2), (3, .long x3), (5, .int x5)] [] M (0, 0) (f_X2_withoutGroups_b5 z r5 x2 x3 x5 M) := by
  refine j_iload (pc := 5) C dX2_withoutGroups_5 rfl ?_
  refine j_iload_n (pc := 7) C dX2_withoutGroups_7 rfl ?_
  refine j_icmp_ge (pc := 8) C dX2_withoutGroups_8 (tgt := 23) (by decide) (fun hc2 => ?_) (fun hc2 => ?_)
  · refine j_lload_n (pc := 23) C dX2_withoutGroups_23 rfl ?_
    exact j_lreturn (pc := 24) C rfl dX2_withoutGroups_24 ⟨Nat.zero_le _, Nat.zero_le _⟩
  · refine j_lload_n (pc := 11) C dX2_withoutGroups_11 rfl ?_
    refine j_ldc2 (pc := 12) C dX2_withoutGroups_12 (v := 100000) w9_701 ?_
    refine j_ldiv (pc := 15) C dX2_withoutGroups_15 (fun v1 => ?_)
    refine j_lstore_n (pc := 16) C dX2_withoutGroups_16 (Nat.le_of_ble_eq_true rfl) (ls' := [(3, .long v1), (2, .int x2), (5, .int x5)]) rfl ?_
    refine j_iinc (pc := 17) C dX2_withoutGroups_17 rfl (v := (x5 + (1 : Int32))) rfl (Nat.le_of_ble_eq_true rfl) (ls' := [(5, .int (x5 + (1 : Int32))), (3, .long v1), (2, .int x2)]) rfl ?_
    refine j_goto (pc := 20) C dX2_withoutGroups_20 (tgt := 5) (by decide) ?_
    refine j_loc [2, 1, 0] rfl ?_
    exact h5 x2 v1 (x5 + (1 : Int32)) M
theorem t_X2_withoutGroups_l5 {z : Sh9} {N : Nv9} {X : Cx9} {out : Out9 × Mem9} (C : OK9 z N X out 6 (co9 out.1) cX2_withoutGroups RX2 0 3 [])  : ∀ (n : Nat) (x2 : Int32) (x3 : Int64) (x5 : Int32) (M : Mem9), J9 z N X out 6 5 [(2, .int x2), (3, .long x3), (5, .int x5)] [] M (0, 0) (fx9 (fun _ _ _ _ => none) (f_X2_withoutGroups_b5 z ) n x2 x3 x5 M) := by
  intro n
  induction n with
  | zero => intro x2 x3 x5 M; exact j_none
  | succ n ih => intro x2 x3 x5 M; exact t_X2_withoutGroups_b5 C  ih x2 x3 x5 M
def f_X2_withoutGroups (z : Sh9) (a0 : Int64) (a1 : Int32) (M : Mem9) : Re9 :=
  (fx9 (fun _ _ _ _ => none) (f_X2_withoutGroups_b5 z ) FU9 a1 a0 (0 : Int32) M)
set_option maxRecDepth 20000 in
set_option maxHeartbeats 4000000 in
theorem t_X2_withoutGroups {z : Sh9} {N : Nv9} {X : Cx9} {out : Out9 × Mem9} (C : OK9 z N X out 6 (co9 out.1) cX2_withoutGroups RX2 0 3 []) (a0 : Int64) (a1 : Int32) (M : Mem9) : J9 z N X out 6 0 [(0, .long a0), (2, .int a1)] [] M (0, 0) (f_X2_withoutGroups z a0 a1 M) := by
  refine j_lload_n (pc := 0) C dX2_withoutGroups_0 rfl ?_
  refine j_lstore_n (pc := 1) C dX2_withoutGroups_1 (Nat.le_of_ble_eq_true rfl) (ls' := [(3, .long a0), (0, .long a0), (2, .int a1)]) rfl ?_
  refine j_iconst (pc := 2) C dX2_withoutGroups_2 (v := 0) rfl ?_
  refine j_istore (pc := 3) C dX2_withoutGroups_3 (Nat.le_of_ble_eq_true rfl) (ls' := [(5, .int (0 : Int32)), (3, .long a0), (0, .long a0), (2, .int a1)]) rfl ?_
  refine j_loc [3, 1, 0] rfl ?_
  exact t_X2_withoutGroups_l5 C  FU9 a1 a0 (0 : Int32) M
theorem sp_X2_withoutGroups {l : Launch} {z : Sh9} {N : Nv9} {a0 : Int64} {a1 : Int32} {M : Mem9} {o : Out9 × Mem9} (hl : l.stackTraces = false) (h : f_X2_withoutGroups z a0 a1 M = some o) : Sp9 l z N yX2_withoutGroups (Cond.code yX2_withoutGroups cX2_withoutGroups 6 (some .long)) 0 [.long a0, .int a1] M (co9 o.1) o :=
  sp9_of (rk := 3) (own := RX2) (by decide +kernel) rfl (Or.inr (Or.inr (Or.inr ⟨rfl, rfl⟩))) hl (Nat.le_of_ble_eq_true rfl) (fun X C => t_X2_withoutGroups C a0 a1 M) h
def f_X2_runScript_b60 (z : Sh9) (r60 : Nat → Int32 → Int64 → Int32 → Mem9 → Re9) (x0 : Nat) (x1 : Int32) (x2 : Int64) (x4 : Int32) (M : Mem9) : Re9 :=
  (if x1 ≤ x4 then (ri9 (-1 : Int32) M) else (bl9 (f_X2_withoutGroups z x2 ((x1 - (1 : Int32)) - x4) M) fun v11 M10 => ((rl9 v11 (100000 : Int64)).bind fun v12 => (bi9 (iv9 z x0 2 (f_X2_doGroup z x0 (Int64.toInt32 v12) M10)) fun v14 M13 => (if v14 = 0 then (ri9 x4 M13) else (r60 x0 x1 x2 (x4 + (1 : Int32)) M13))))))
set_option maxRecDepth 20000 in
set_option maxHeartbeats 4000000 in
theorem t_X2_runScript_b60 {z : Sh9} {N : Nv9} {X : Cx9} {out : Out9 × Mem9} (C : OK9 z N X out 5 (co9 out.1) cX2_runScript RX2 6 1 []) {r60 : Nat → Int32 → Int64 → Int32 → Mem9 → Re9} (h60 : ∀ (x0 : Nat) (x1 : Int32) (x2 : Int64) (x4 : Int32) (M : Mem9), J9 z N X out 5 60 [(0, .ref x0), (1, .int x1), (2, .long x2), (4, .int x4)] [] M (0, 0) (r60 x0 x1 x2 x4 M)) (x0 : Nat) (x1 : Int32) (x2 : Int64) (x4 : Int32) (M : Mem9) : J9 z N X out 5 60 [(0, .ref x0), (1, .int x1), (2, .long x2), (4, .int x4)] [] M (0, 0) (f_X2_runScript_b60 z r60 x0 x1 x2 x4 M) := by
  refine j_iload (pc := 60) C dX2_runScript_60 rfl ?_
  refine j_iload_n (pc := 62) C dX2_runScript_62 rfl ?_
  refine j_icmp_ge (pc := 63) C dX2_runScript_63 (tgt := 97) (by decide) (fun hc16 => ?_) (fun hc16 => ?_)
  · refine j_iconst (pc := 97) C dX2_runScript_97 (v := -1) rfl ?_
    exact j_ireturn (pc := 98) C rfl dX2_runScript_98 ⟨Nat.zero_le _, Nat.zero_le _⟩
  · refine j_aload_n (pc := 66) C dX2_runScript_66 rfl ?_
    refine j_lload_n (pc := 67) C dX2_runScript_67 rfl ?_
    refine j_iload_n (pc := 68) C dX2_runScript_68 rfl ?_
    refine j_iconst (pc := 69) C dX2_runScript_69 (v := 1) rfl ?_
    refine j_isub (pc := 70) C dX2_runScript_70 ?_
    refine j_iload (pc := 71) C dX2_runScript_71 rfl ?_
    refine j_isub (pc := 73) C dX2_runScript_73 ?_
    refine j_callSl (pc := 74) C rfl dX2_runScript_74 ls_X2_247 rfl (Nat.le_of_ble_eq_true rfl) (Nat.le_of_ble_eq_true rfl) (by decide) (Or.inl rfl) ⟨Nat.le_refl _, Nat.le_refl _⟩ (fun l hl o ho => sp_X2_withoutGroups hl ho) (fun v11 M10 => ?_)
    refine j_ldc2 (pc := 77) C dX2_runScript_77 (v := 100000) w9_701 ?_
    refine j_lrem (pc := 80) C dX2_runScript_80 (fun v12 => ?_)
    refine j_l2i (pc := 81) C dX2_runScript_81 ?_
    refine j_callVi (pc := 82) C rfl dX2_runScript_82 lv_X2_255 rfl (Nat.le_of_ble_eq_true rfl) (Nat.le_of_ble_eq_true rfl) (by decide) (Or.inl rfl) ⟨Nat.le_refl _, Nat.le_refl _⟩ (fun l hl o ho => sp_X2_doGroup hl ho) (fun v14 M13 => ?_)
    refine j_if_ne (pc := 85) C dX2_runScript_85 (tgt := 91) (by decide) (fun hc15 => ?_) (fun hc15 => ?_)
    · refine j_iinc (pc := 91) C dX2_runScript_91 rfl (v := (x4 + (1 : Int32))) rfl (Nat.le_of_ble_eq_true rfl) (ls' := [(4, .int (x4 + (1 : Int32))), (0, .ref x0), (1, .int x1), (2, .long x2)]) rfl ?_
      refine j_goto (pc := 94) C dX2_runScript_94 (tgt := 60) (by decide) ?_
      refine j_loc [1, 2, 3, 0] rfl ?_
      exact h60 x0 x1 x2 (x4 + (1 : Int32)) M13
    · refine j_iload (pc := 88) C dX2_runScript_88 rfl ?_
      exact j_ireturn (pc := 90) C rfl dX2_runScript_90 ⟨Nat.zero_le _, Nat.zero_le _⟩
theorem t_X2_runScript_l60 {z : Sh9} {N : Nv9} {X : Cx9} {out : Out9 × Mem9} (C : OK9 z N X out 5 (co9 out.1) cX2_runScript RX2 6 1 [])  : ∀ (n : Nat) (x0 : Nat) (x1 : Int32) (x2 : Int64) (x4 : Int32) (M : Mem9), J9 z N X out 5 60 [(0, .ref x0), (1, .int x1), (2, .long x2), (4, .int x4)] [] M (0, 0) (fx9 (fun _ _ _ _ _ => none) (f_X2_runScript_b60 z ) n x0 x1 x2 x4 M) := by
  intro n
  induction n with
  | zero => intro x0 x1 x2 x4 M; exact j_none
  | succ n ih => intro x0 x1 x2 x4 M; exact t_X2_runScript_b60 C  ih x0 x1 x2 x4 M
def f_X2_runScript (z : Sh9) (a0 : Nat) (a1 : Int32) (a2 : Int64) (M : Mem9) : Re9 :=
  (if a1 < (1 : Int32) then (tx9 "java/lang/IllegalArgumentException" M) else (if a1 ≤ (3 : Int32) then (if (lg_cmp a2 (0 : Int64)) < 0 then (tx9 "java/lang/IllegalArgumentException" M) else (bl9 (f_X2_withoutGroups z a2 a1 M) fun v2 M1 => (if (lg_cmp v2 (0 : Int64)) = 0 then ((rf9 z a0 2 23).bind fun v3 => ((rf9 z a0 2 2).bind fun v4 => (bv9 (iv9 z v3 0 (f_X0_copyFrom z v3 v4 M1)) fun M5 => (fx9 (fun _ _ _ _ _ => none) (f_X2_runScript_b60 z ) FU9 a0 a1 a2 (0 : Int32) M5)))) else (tx9 "java/lang/IllegalArgumentException" M1)))) else (tx9 "java/lang/IllegalArgumentException" M)))
set_option maxRecDepth 20000 in
set_option maxHeartbeats 4000000 in
theorem t_X2_runScript {z : Sh9} {N : Nv9} {X : Cx9} {out : Out9 × Mem9} (C : OK9 z N X out 5 (co9 out.1) cX2_runScript RX2 6 1 []) (a0 : Nat) (a1 : Int32) (a2 : Int64) (M : Mem9) : J9 z N X out 5 0 [(0, .ref a0), (1, .int a1), (2, .long a2)] [] M (0, 0) (f_X2_runScript z a0 a1 a2 M) := by
  refine j_iload_n (pc := 0) C dX2_runScript_0 rfl ?_
  refine j_iconst (pc := 1) C dX2_runScript_1 (v := 1) rfl ?_
  refine j_icmp_lt (pc := 2) C dX2_runScript_2 (tgt := 10) (by decide) (fun hc9 => ?_) (fun hc9 => ?_)
  · exact j_throw (pc := 10) C rfl th_X2_runScript_10 (by decide) (Nat.le_of_ble_eq_true rfl) rfl ⟨Nat.le_refl _, Nat.le_refl _⟩
  · refine j_iload_n (pc := 5) C dX2_runScript_5 rfl ?_
    refine j_iconst (pc := 6) C dX2_runScript_6 (v := 3) rfl ?_
    refine j_icmp_le (pc := 7) C dX2_runScript_7 (tgt := 20) (by decide) (fun hc8 => ?_) (fun hc8 => ?_)
    · refine j_lload_n (pc := 20) C dX2_runScript_20 rfl ?_
      refine j_lconst (pc := 21) C dX2_runScript_21 (v := 0) rfl ?_
      refine j_lcmp (pc := 22) C dX2_runScript_22 ?_
      refine j_if_lt (pc := 23) C dX2_runScript_23 (tgt := 36) (by decide) (fun hc7 => ?_) (fun hc7 => ?_)
      · exact j_throw (pc := 36) C rfl th_X2_runScript_36 (by decide) (Nat.le_of_ble_eq_true rfl) rfl ⟨Nat.le_refl _, Nat.le_refl _⟩
      · refine j_lload_n (pc := 26) C dX2_runScript_26 rfl ?_
        refine j_iload_n (pc := 27) C dX2_runScript_27 rfl ?_
        refine j_callSl (pc := 28) C rfl dX2_runScript_28 ls_X2_247 rfl (Nat.le_of_ble_eq_true rfl) (Nat.le_of_ble_eq_true rfl) (by decide) (Or.inl rfl) ⟨Nat.le_refl _, Nat.le_refl _⟩ (fun l hl o ho => sp_X2_withoutGroups hl ho) (fun v2 M1 => ?_)
        refine j_lconst (pc := 31) C dX2_runScript_31 (v := 0) rfl ?_
        refine j_lcmp (pc := 32) C dX2_runScript_32 ?_
        refine j_if_eq (pc := 33) C dX2_runScript_33 (tgt := 46) (by decide) (fun hc6 => ?_) (fun hc6 => ?_)
        · refine j_aload_n (pc := 46) C dX2_runScript_46 rfl ?_
          refine j_getR (pc := 47) C dX2_runScript_47 fl_X2_24 fr_X2_3 (fun v3 => ?_)
          refine j_aload_n (pc := 50) C dX2_runScript_50 rfl ?_
          refine j_getR (pc := 51) C dX2_runScript_51 fl_X2_20 fr_X2_2 (fun v4 => ?_)
          refine j_callVv (pc := 54) C rfl dX2_runScript_54 lv_X2_220 rfl (Nat.le_of_ble_eq_true rfl) (Nat.le_of_ble_eq_true rfl) (by decide) (Or.inl rfl) ⟨Nat.le_refl _, Nat.le_refl _⟩ (fun l hl o ho => sp_X0_copyFrom hl ho) (fun M5 => ?_)
          refine j_iconst (pc := 57) C dX2_runScript_57 (v := 0) rfl ?_
          refine j_istore (pc := 58) C dX2_runScript_58 (Nat.le_of_ble_eq_true rfl) (ls' := [(4, .int (0 : Int32)), (0, .ref a0), (1, .int a1), (2, .long a2)]) rfl ?_
          refine j_loc [1, 2, 3, 0] rfl ?_
          exact t_X2_runScript_l60 C  FU9 a0 a1 a2 (0 : Int32) M5
        · exact j_throw (pc := 36) C rfl th_X2_runScript_36 (by decide) (Nat.le_of_ble_eq_true rfl) rfl ⟨Nat.le_refl _, Nat.le_refl _⟩
    · exact j_throw (pc := 10) C rfl th_X2_runScript_10 (by decide) (Nat.le_of_ble_eq_true rfl) rfl ⟨Nat.le_refl _, Nat.le_refl _⟩
theorem sp_X2_runScript {l : Launch} {z : Sh9} {N : Nv9} {a0 : Nat} {a1 : Int32} {a2 : Int64} {M : Mem9} {o : Out9 × Mem9} (hl : l.stackTraces = false) (h : f_X2_runScript z a0 a1 a2 M = some o) : Sp9 l z N yX2_runScript (Cond.code yX2_runScript cX2_runScript 5 (some .int)) 6 [.ref a0, .int a1, .long a2] M (co9 o.1) o :=
  sp9_of (rk := 1) (own := RX2) (by decide +kernel) rfl (Or.inr (Or.inl ⟨rfl, rfl⟩)) hl (Nat.le_of_ble_eq_true rfl) (fun X C => t_X2_runScript C a0 a1 a2 M) h
